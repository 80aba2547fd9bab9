import java.util.Arrays;

/**
 * A workshop for shapes in the plane: read from words or bytes, written, judged, laid over one another,
 * related, made simpler; their hulls and triangles, their boxes, and exact signs for binary fractions.
 *
 * <p>The face throws; the classes inside answer by numbers and never throw. All rows are made once, in the
 * constructors, since all calls of a run share one room.
 */
public final class ShapeWorkshop {
    /** Nothing there. */
    public static final int NONE = -1;

    private static final int SLOTS = 32;
    private static final int TAPE = 65536;
    private static final int STRIP = 20;
    private static final int FARTHEST = 1000000000;
    private static final int HALFWAY = 500000000;
    private static final int WAYS = 5;
    private static final int TESTS = 9;
    private static final int SIGN_POINTS = 32;

    private static final int POINT = 1;
    private static final int LINESTRING = 2;
    private static final int POLYGON = 3;
    private static final int MULTIPOINT = 4;
    private static final int MULTILINESTRING = 5;
    private static final int MULTIPOLYGON = 6;
    private static final int GEOMETRYCOLLECTION = 7;

    private static final int INSIDE = 0;
    private static final int RIM = 1;
    private static final int OUTSIDE = 2;

    private static final int DEEPEST = 50;
    private static final int LEVELS = 64;

    private static final int[] UNITS = {1, 10, 100, 1000};

    private final Shape[] slots;
    private final Shape spare;
    private final byte[] tape;
    private int tapeSize;
    private int wrong;
    private int wrongPlace;
    private final WordReader wordReader;
    private final ByteReader byteReader;
    private final Writer result;
    private final Judge judge;
    private final Snapper snapper;
    private final RingMaker ringMaker;
    private final Relater relater;
    private final Pointwork pointwork;
    private final Signs signs;
    private final int[] box;
    private final int[] foundSlots;
    private final long[] foundKeys;
    private int foundCount;

    public ShapeWorkshop(int digits) {
        int kept = digits & 3;
        slots = new Shape[SLOTS];
        for (int i = 0; i < SLOTS; i++) {
            slots[i] = new Shape();
        }
        spare = new Shape();
        tape = new byte[TAPE];
        wordReader = new WordReader(kept, tape, spare);
        byteReader = new ByteReader(kept, tape, spare);
        result = new Writer(kept);
        judge = new Judge();
        snapper = new Snapper();
        ringMaker = new RingMaker(snapper);
        relater = new Relater();
        pointwork = new Pointwork();
        signs = new Signs();
        box = new int[4];
        foundSlots = new int[SLOTS];
        foundKeys = new long[SLOTS];
    }

    // ---- the tape and the result

    public int feed(int a, int b, int c, int d, int e) throws IllegalStateException {
        if (tapeSize > TAPE - STRIP) {
            throw new IllegalStateException();
        }
        layOnTape(a);
        layOnTape(b);
        layOnTape(c);
        layOnTape(d);
        layOnTape(e);
        return tapeSize;
    }

    private void layOnTape(int four) {
        for (int shift = 24; shift >= 0 && tapeSize < TAPE; shift -= 8) {
            tape[tapeSize] = (byte) (four >>> shift);
            tapeSize++;
        }
    }

    public int end(int n) throws IllegalArgumentException, IllegalStateException {
        if (n < 0 || n > STRIP) {
            throw new IllegalArgumentException();
        }
        if (tapeSize < STRIP) {
            throw new IllegalStateException();
        }
        tapeSize -= STRIP - n;
        return tapeSize;
    }

    public int again() {
        tapeSize = Math.min(result.size, TAPE);
        System.arraycopy(result.row, 0, tape, 0, tapeSize);
        return tapeSize;
    }

    public int byteAt(int i) throws IndexOutOfBoundsException {
        if (i < 0 || i >= result.size) {
            throw new IndexOutOfBoundsException();
        }
        return result.row[i] & 255;
    }

    // ---- reading and writing

    public int readWords(int slot) throws IndexOutOfBoundsException, IllegalArgumentException {
        int bytes = tapeSize;
        tapeSize = 0;
        Shape shape = slotNumbered(slot);
        boolean good = wordReader.readInto(shape, bytes);
        return kindOrFault(shape, good, wordReader.wrong, wordReader.place);
    }

    public int readBytes(int slot) throws IndexOutOfBoundsException, IllegalArgumentException {
        int bytes = tapeSize;
        tapeSize = 0;
        Shape shape = slotNumbered(slot);
        boolean good = byteReader.readInto(shape, bytes);
        return kindOrFault(shape, good, byteReader.wrong, byteReader.place);
    }

    private int kindOrFault(Shape shape, boolean good, int code, int at) throws IllegalArgumentException {
        wrong = code;
        wrongPlace = at;
        if (!good) {
            shape.clear();
            throw new IllegalArgumentException();
        }
        return shape.kind();
    }

    public int fault(int what) throws IndexOutOfBoundsException {
        if (what < 0 || what > 1) {
            throw new IndexOutOfBoundsException();
        }
        return what == 0 ? wrong : wrongPlace;
    }

    public int writeWords(int slot) throws IndexOutOfBoundsException, IllegalStateException {
        Shape shape = slotNumbered(slot);
        mustBeThere(shape);
        return result.tellInWords(shape);
    }

    public int writeBytes(int slot, int order)
            throws IndexOutOfBoundsException, IllegalStateException, IllegalArgumentException {
        Shape shape = slotNumbered(slot);
        mustBeThere(shape);
        if (order < 0 || order > 1) {
            throw new IllegalArgumentException();
        }
        return result.tellInBytes(shape, order);
    }

    // ---- slots

    private Shape slotNumbered(int slot) throws IndexOutOfBoundsException {
        if (slot < 0 || slot >= SLOTS) {
            throw new IndexOutOfBoundsException();
        }
        return slots[slot];
    }

    private static void mustBeThere(Shape shape) throws IllegalStateException {
        if (!shape.isThere()) {
            throw new IllegalStateException();
        }
    }

    public int copy(int from, int to) throws IndexOutOfBoundsException, IllegalStateException {
        Shape shape = slotNumbered(from);
        Shape target = slotNumbered(to);
        mustBeThere(shape);
        target.become(shape);
        return target.kind();
    }

    public boolean drop(int slot) throws IndexOutOfBoundsException {
        Shape shape = slotNumbered(slot);
        boolean had = shape.isThere();
        shape.clear();
        return had;
    }

    public boolean same(int slot, int other) throws IndexOutOfBoundsException {
        Shape one = slotNumbered(slot);
        Shape two = slotNumbered(other);
        return one.isLike(two);
    }

    public int plan(int slot, int i) throws IndexOutOfBoundsException {
        Shape shape = slotNumbered(slot);
        if (i < 0 || i >= shape.plans) {
            throw new IndexOutOfBoundsException();
        }
        return shape.plan[i];
    }

    public int ordinate(int slot, int i, int what) throws IndexOutOfBoundsException {
        Shape shape = slotNumbered(slot);
        if (i < 0 || i >= shape.points || what < 0 || what > 1) {
            throw new IndexOutOfBoundsException();
        }
        return what == 0 ? shape.x[i] : shape.y[i];
    }

    public int count(int slot, int what) throws IndexOutOfBoundsException {
        Shape shape = slotNumbered(slot);
        switch (what) {
            case 0:
                return shape.plans;
            case 1:
                return shape.points;
            case 2:
                return tapeSize;
            case 3:
                return result.size;
            case 4:
                return slotsWithShapes();
            case 5:
                return foundCount;
            default:
                throw new IndexOutOfBoundsException();
        }
    }

    private int slotsWithShapes() {
        int there = 0;
        for (int i = 0; i < SLOTS; i++) {
            if (slots[i].isThere()) {
                there++;
            }
        }
        return there;
    }

    // ---- judging

    public int judge(int slot) throws IndexOutOfBoundsException, IllegalStateException {
        Shape shape = slotNumbered(slot);
        mustBeThere(shape);
        return judge.firstFault(shape);
    }

    public int place(int what) throws IndexOutOfBoundsException {
        if (what < 0 || what >= Judge.PLACES) {
            throw new IndexOutOfBoundsException();
        }
        return judge.place[what];
    }

    // ---- two shapes

    public int overlay(int what, int slot, int other, int to)
            throws IndexOutOfBoundsException, IllegalStateException, IllegalArgumentException,
            UnsupportedOperationException {
        Shape one = slotNumbered(slot);
        Shape two = slotNumbered(other);
        Shape target = slotNumbered(to);
        mustBeThere(one);
        mustBeThere(two);
        if (what < 0 || what >= WAYS || !canBeLaidOver(one) || !canBeLaidOver(two)) {
            throw new IllegalArgumentException();
        }
        if (!snapper.snap(one, two) || !ringMaker.make(what, spare)) {
            throw new UnsupportedOperationException();
        }
        target.become(spare);
        return target.plan[1];
    }

    private static boolean canBeLaidOver(Shape shape) {
        int kind = shape.kind();
        if (kind != POLYGON && kind != MULTIPOLYGON || !shape.liesWithin(HALFWAY)) {
            return false;
        }
        int from = 0;
        for (int at = 0; at + 1 < shape.plans; at = shape.behind(at)) {
            for (int row = 0; row < shape.rows(at); row++) {
                int length = shape.rowLength(at, row);
                if (!shape.isClosed(from, length)) {
                    return false;
                }
                from += length;
            }
        }
        return true;
    }

    public int relate(int slot, int other)
            throws IndexOutOfBoundsException, IllegalStateException, IllegalArgumentException,
            UnsupportedOperationException {
        mustBeRelatable(0, slot, other);
        if (!relater.fillMatrix(slotNumbered(slot), slotNumbered(other))) {
            throw new UnsupportedOperationException();
        }
        return relater.matrixNumber();
    }

    public boolean is(int what, int slot, int other)
            throws IndexOutOfBoundsException, IllegalStateException, IllegalArgumentException,
            UnsupportedOperationException {
        mustBeRelatable(what, slot, other);
        if (!relater.fillMatrix(slotNumbered(slot), slotNumbered(other))) {
            throw new UnsupportedOperationException();
        }
        return relater.lieSo(what);
    }

    private void mustBeRelatable(int what, int slot, int other)
            throws IndexOutOfBoundsException, IllegalStateException, IllegalArgumentException {
        Shape one = slotNumbered(slot);
        Shape two = slotNumbered(other);
        mustBeThere(one);
        mustBeThere(two);
        if (what < 0 || what >= TESTS || !canBeRelated(one) || !canBeRelated(two)) {
            throw new IllegalArgumentException();
        }
    }

    private static boolean canBeRelated(Shape shape) {
        return shape.kind() != GEOMETRYCOLLECTION && shape.liesWithin(HALFWAY);
    }

    public int locate(int slot, int x, int y)
            throws IndexOutOfBoundsException, IllegalStateException, IllegalArgumentException,
            UnsupportedOperationException {
        Shape shape = slotNumbered(slot);
        mustBeThere(shape);
        if (isBeyond(x, HALFWAY) || isBeyond(y, HALFWAY) || !canBeRelated(shape)) {
            throw new IllegalArgumentException();
        }
        if (Relater.hasTooManyParts(shape)) {
            throw new UnsupportedOperationException();
        }
        return Relater.whereIs(shape, x, y);
    }

    private static boolean isBeyond(int value, int limit) {
        return value < -limit || value > limit;
    }

    // ---- hulls, triangles, simpler shapes

    public int hull(int slot, int to)
            throws IndexOutOfBoundsException, IllegalStateException, UnsupportedOperationException {
        Shape shape = slotNumbered(slot);
        Shape target = slotNumbered(to);
        mustBeThere(shape);
        if (!pointwork.gather(shape)) {
            throw new UnsupportedOperationException();
        }
        return pointwork.span(target);
    }

    public int triangles(int slot, int to)
            throws IndexOutOfBoundsException, IllegalStateException, UnsupportedOperationException {
        Shape shape = slotNumbered(slot);
        Shape target = slotNumbered(to);
        mustBeThere(shape);
        if (!pointwork.gather(shape) || !pointwork.triangulate()) {
            throw new UnsupportedOperationException();
        }
        return pointwork.tellTriangles(target);
    }

    public int simplify(int slot, int to, int distance)
            throws IndexOutOfBoundsException, IllegalStateException, IllegalArgumentException {
        Shape shape = slotNumbered(slot);
        Shape target = slotNumbered(to);
        mustBeThere(shape);
        if (distance < 0 || distance > FARTHEST) {
            throw new IllegalArgumentException();
        }
        int leftOut = pointwork.thin(shape, spare, distance);
        target.become(spare);
        return leftOut;
    }

    public long area(int slot) throws IndexOutOfBoundsException, IllegalStateException {
        Shape shape = slotNumbered(slot);
        mustBeThere(shape);
        long total = 0;
        int from = 0;
        for (int at = 0; at + 1 < shape.plans; at = shape.behind(at)) {
            for (int row = 0; row < shape.rows(at); row++) {
                int length = shape.rowLength(at, row);
                if (shape.plan[at] == POLYGON) {
                    long size = Math.abs(shape.twiceAround(from, length));
                    total += row == 0 ? size : -size;
                }
                from += length;
            }
        }
        return total;
    }

    // ---- boxes

    public int bounds(int slot, int what)
            throws IndexOutOfBoundsException, IllegalStateException, IllegalArgumentException {
        Shape shape = slotNumbered(slot);
        mustBeThere(shape);
        if (what < 0 || what > 3 || !shape.putBox(box)) {
            throw new IllegalArgumentException();
        }
        return box[what];
    }

    public int find(int what, int lowX, int lowY, int highX, int highY) throws IllegalArgumentException {
        if (what < 0 || what > 2 || lowX < -FARTHEST || lowY < -FARTHEST
                || highX > FARTHEST || highY > FARTHEST || highX < lowX || highY < lowY) {
            throw new IllegalArgumentException();
        }
        foundCount = 0;
        for (int i = 0; i < SLOTS; i++) {
            if (slots[i].putBox(box) && boxLies(what, lowX, lowY, highX, highY)) {
                foundSlots[foundCount] = i;
                foundCount++;
            }
        }
        return foundCount;
    }

    private boolean boxLies(int what, int lowX, int lowY, int highX, int highY) {
        switch (what) {
            case 0:
                return box[0] <= highX && box[2] >= lowX && box[1] <= highY && box[3] >= lowY;
            case 1:
                return box[0] >= lowX && box[2] <= highX && box[1] >= lowY && box[3] <= highY;
            default:
                return box[0] <= lowX && box[2] >= highX && box[1] <= lowY && box[3] >= highY;
        }
    }

    public int nearest(int x, int y, int n) throws IllegalArgumentException {
        if (n < 1 || n > SLOTS || isBeyond(x, FARTHEST) || isBeyond(y, FARTHEST)) {
            throw new IllegalArgumentException();
        }
        int boxes = 0;
        for (int i = 0; i < SLOTS; i++) {
            if (slots[i].putBox(box)) {
                insertByDistance(boxes, i, distanceFromBox(x, y));
                boxes++;
            }
        }
        foundCount = Math.min(n, boxes);
        return foundCount;
    }

    private long distanceFromBox(int x, int y) {
        long wayX = Math.max(0L, Math.max((long) box[0] - x, (long) x - box[2]));
        long wayY = Math.max(0L, Math.max((long) box[1] - y, (long) y - box[3]));
        return wayX * wayX + wayY * wayY;
    }

    /** Slots come with rising numbers, so that one as near as another goes behind it. */
    private void insertByDistance(int boxes, int slot, long distance) {
        int at = boxes;
        while (at > 0 && foundKeys[at - 1] > distance) {
            foundKeys[at] = foundKeys[at - 1];
            foundSlots[at] = foundSlots[at - 1];
            at--;
        }
        foundKeys[at] = distance;
        foundSlots[at] = slot;
    }

    public int found(int k) throws IndexOutOfBoundsException {
        if (k < 0 || k >= foundCount) {
            throw new IndexOutOfBoundsException();
        }
        return foundSlots[k];
    }

    // ---- signs

    public void point(int i, long x, long y) throws IndexOutOfBoundsException, IllegalArgumentException {
        if (isNoSignPoint(i)) {
            throw new IndexOutOfBoundsException();
        }
        if (isNoNumber(x) || isNoNumber(y)) {
            throw new IllegalArgumentException();
        }
        signs.x[i] = x;
        signs.y[i] = y;
    }

    private static boolean isNoSignPoint(int i) {
        return i < 0 || i >= SIGN_POINTS;
    }

    private static boolean isNoNumber(long bits) {
        return (bits >>> 52 & 2047) == 2047;
    }

    public int side(int i, int j, int k) throws IndexOutOfBoundsException {
        if (isNoSignPoint(i) || isNoSignPoint(j) || isNoSignPoint(k)) {
            throw new IndexOutOfBoundsException();
        }
        return signs.sideSign(i, j, k);
    }

    public int circle(int i, int j, int k, int l) throws IndexOutOfBoundsException {
        if (isNoSignPoint(i) || isNoSignPoint(j) || isNoSignPoint(k) || isNoSignPoint(l)) {
            throw new IndexOutOfBoundsException();
        }
        return signs.circleSign(i, j, k, l);
    }

    // ---- exact arithmetic for all

    /** 1 when c lies to the left of the way from a to b, -1 to the right, 0 on its line; exact up to 2 * 10^9 apart. */
    private static int turnOf(long ax, long ay, long bx, long by, long cx, long cy) {
        return Long.compare((bx - ax) * (cy - ay), (by - ay) * (cx - ax));
    }

    private static boolean isOnSegment(int ax, int ay, int bx, int by, int x, int y) {
        return x >= Math.min(ax, bx) && x <= Math.max(ax, bx) && y >= Math.min(ay, by) && y <= Math.max(ay, by)
                && turnOf(ax, ay, bx, by, x, y) == 0;
    }

    /** Whether a line from a place straight to the right crosses a segment: just one end lies above the place. */
    private static boolean isCrossedFrom(int ax, int ay, int bx, int by, int x, int y) {
        boolean up = by > y;
        if (ay > y == up) {
            return false;
        }
        int turn = turnOf(ax, ay, bx, by, x, y);
        return up ? turn > 0 : turn < 0;
    }

    /** The sign of a * b + c * d + e * f, whose sum stays within 127 bits. */
    private static int signOfSum(long a, long b, long c, long d, long e, long f) {
        long low = a * b;
        long high = highOf(a, b);
        long more = c * d;
        low += more;
        high += highOf(c, d) + carryOf(low, more);
        more = e * f;
        low += more;
        high += highOf(e, f) + carryOf(low, more);
        return high != 0 ? Long.compare(high, 0) : low != 0 ? 1 : 0;
    }

    /** A sum without sign that is less than what was added has run over. */
    private static int carryOf(long sum, long added) {
        return sum + Long.MIN_VALUE < added + Long.MIN_VALUE ? 1 : 0;
    }

    /** The upper 64 bits of a product of 128. */
    private static long highOf(long a, long b) {
        long mask = 0xFFFFFFFFL;
        long lowA = a & mask;
        long highA = a >> 32;
        long lowB = b & mask;
        long highB = b >> 32;
        long middle = highA * lowB + (lowA * lowB >>> 32);
        long other = lowA * highB + (middle & mask);
        return highA * highB + (middle >> 32) + (other >> 32);
    }

    /** Places in this order are sorted by x, of equal ones by y. */
    private static long keyOf(int x, int y) {
        return (long) x << 32 | (y ^ Integer.MIN_VALUE) & 0xFFFFFFFFL;
    }

    private static int keyX(long key) {
        return (int) (key >> 32);
    }

    private static int keyY(long key) {
        return (int) key ^ Integer.MIN_VALUE;
    }

    /** Sorts within the row itself, so that no second one is needed. */
    private static void sortRow(long[] row, int size) {
        for (int root = size / 2 - 1; root >= 0; root--) {
            sift(row, root, size);
        }
        for (int last = size - 1; last > 0; last--) {
            long greatest = row[0];
            row[0] = row[last];
            row[last] = greatest;
            sift(row, 0, last);
        }
    }

    private static void sift(long[] row, int root, int size) {
        long value = row[root];
        int at = root;
        for (int child = 2 * at + 1; child < size; child = 2 * at + 1) {
            if (child + 1 < size && row[child + 1] > row[child]) {
                child++;
            }
            if (row[child] <= value) {
                break;
            }
            row[at] = row[child];
            at = child;
        }
        row[at] = value;
    }

    /** Leaves each value of a sorted row once: how many there are. */
    private static int leaveEachOnce(long[] row, int size) {
        int different = 0;
        for (int i = 0; i < size; i++) {
            if (different == 0 || row[different - 1] != row[i]) {
                row[different] = row[i];
                different++;
            }
        }
        return different;
    }

    /** A shape: its plan, and its points in the order of the plan. */
    private static final class Shape {
        static final int MOST = 2048;

        final int[] plan = new int[MOST];
        final int[] x = new int[MOST];
        final int[] y = new int[MOST];
        int plans;
        int points;

        boolean isThere() {
            return plans > 0;
        }

        int kind() {
            return plans > 0 ? plan[0] : 0;
        }

        void clear() {
            plans = 0;
            points = 0;
        }

        boolean hasRoomForPoint() {
            return points < MOST;
        }

        /** The two plan numbers with which each shape begins. */
        boolean addShape(int kind, int parts) {
            if (plans > MOST - 2) {
                return false;
            }
            plan[plans] = kind;
            plan[plans + 1] = parts;
            plans += 2;
            return true;
        }

        /** The plan number of a ring. */
        boolean addRing(int length) {
            if (plans >= MOST) {
                return false;
            }
            plan[plans] = length;
            plans++;
            return true;
        }

        boolean addPoint(int px, int py) {
            if (points >= MOST) {
                return false;
            }
            x[points] = px;
            y[points] = py;
            points++;
            return true;
        }

        void become(Shape other) {
            plans = other.plans;
            points = other.points;
            System.arraycopy(other.plan, 0, plan, 0, plans);
            System.arraycopy(other.x, 0, x, 0, points);
            System.arraycopy(other.y, 0, y, 0, points);
        }

        boolean isLike(Shape other) {
            if (plans != other.plans || points != other.points) {
                return false;
            }
            for (int i = 0; i < plans; i++) {
                if (plan[i] != other.plan[i]) {
                    return false;
                }
            }
            for (int i = 0; i < points; i++) {
                if (x[i] != other.x[i] || y[i] != other.y[i]) {
                    return false;
                }
            }
            return true;
        }

        /** Where the next shape begins in the plan, a part also being one. */
        int behind(int at) {
            return plan[at] == POLYGON ? at + 2 + plan[at + 1] : at + 2;
        }

        /** The rows of points that a shape has itself: of a polygon its rings, of what has parts none. */
        int rows(int at) {
            if (plan[at] == POLYGON) {
                return plan[at + 1];
            }
            return plan[at] < POLYGON ? 1 : 0;
        }

        int rowLength(int at, int row) {
            int told = plan[at] == POLYGON ? at + 2 + row : at + 1;
            return told < plans ? plan[told] : 0;
        }

        int pointsAt(int at) {
            int total = 0;
            for (int row = 0; row < rows(at); row++) {
                total += rowLength(at, row);
            }
            return total;
        }

        boolean areLike(int i, int j) {
            return x[i] == x[j] && y[i] == y[j];
        }

        boolean isAt(int i, int px, int py) {
            return x[i] == px && y[i] == py;
        }

        boolean isClosed(int from, int length) {
            return length > 0 && areLike(from, from + length - 1);
        }

        boolean liesWithin(int limit) {
            for (int i = 0; i < points; i++) {
                if (isBeyond(x[i], limit) || isBeyond(y[i], limit)) {
                    return false;
                }
            }
            return true;
        }

        /** Twice the area that a row of points goes round, left round being above 0. */
        long twiceAround(int from, int length) {
            long total = 0;
            for (int i = 0; i < length; i++) {
                int here = from + i;
                int next = i + 1 < length ? here + 1 : from;
                total += (long) x[here] * y[next] - (long) x[next] * y[here];
            }
            return total;
        }

        boolean putBox(int[] box) {
            for (int i = 0; i < points; i++) {
                box[0] = i == 0 ? x[i] : Math.min(box[0], x[i]);
                box[1] = i == 0 ? y[i] : Math.min(box[1], y[i]);
                box[2] = i == 0 ? x[i] : Math.max(box[2], x[i]);
                box[3] = i == 0 ? y[i] : Math.max(box[3], y[i]);
            }
            return points > 0;
        }
    }

    /** Reads a text from the left to the right; each open bracket is a level. */
    private static final class WordReader {
        private static final int CHARACTER = 1;
        private static final int WORD = 2;
        private static final int EXPECTED = 3;
        private static final int NUMBER = 4;
        private static final int RANGE = 5;
        private static final int DEEP = 6;
        private static final int FULL = 7;
        private static final int BEHIND = 8;
        /** A level that is no shape's, but a ring's. */
        private static final int RING = 8;
        private static final long TOO_MUCH = 10000000000L;
        private static final int EXPONENT_TOP = 1000000;

        private final int digits;
        private final byte[] text;
        private final int[] levelKind = new int[LEVELS];
        private final int[] levelCounter = new int[LEVELS];
        private Shape shape;
        private int length;
        private int at;
        private int depth;
        private int collections;
        private int number;
        int wrong;
        int place;

        WordReader(int digits, byte[] text, Shape shape) {
            this.digits = digits;
            this.text = text;
            this.shape = shape;
        }

        boolean readInto(Shape into, int bytes) {
            shape = into;
            shape.clear();
            length = Math.min(bytes, text.length);
            at = 0;
            depth = 0;
            collections = 0;
            wrong = 0;
            place = 0;
            boolean good = readShape();
            // each round passes a byte at least
            for (int round = 0; good && depth > 0 && round <= length; round++) {
                int before = depth;
                good = readItem();
                if (good && depth == before) {
                    good = goOnBehindItem();
                }
            }
            skipBlanks();
            return good && (at >= length || fail(BEHIND));
        }

        private boolean fail(int code) {
            wrong = code;
            place = at;
            return false;
        }

        /** What stands here could not: a foreign byte is told as such. */
        private boolean unexpected() {
            int c = signAt(at);
            boolean known = c < 0 || isLetter(c) || beginsNumber(c) || c == '(' || c == ')' || c == ',';
            return fail(known ? EXPECTED : CHARACTER);
        }

        /** A byte of the text, or NONE behind its end. */
        private int signAt(int i) {
            return i >= 0 && i < length ? text[i] & 255 : NONE;
        }

        private void skipBlanks() {
            while (at < length && isBlank(text[at])) {
                at++;
            }
        }

        private static boolean isBlank(int c) {
            return c == 32 || c == 9 || c == 10 || c == 13;
        }

        private static boolean isLetter(int c) {
            return c >= 'A' && c <= 'Z' || c >= 'a' && c <= 'z';
        }

        private static boolean isDigit(int c) {
            return c >= '0' && c <= '9';
        }

        private static boolean beginsNumber(int c) {
            return c >= '0' && c <= '9' || c == '+' || c == '-' || c == '.';
        }

        private int behindWord() {
            int i = at;
            while (i < length && isLetter(text[i])) {
                i++;
            }
            return i;
        }

        private boolean isWord(String word) {
            if (behindWord() - at != word.length()) {
                return false;
            }
            for (int i = 0; i < word.length(); i++) {
                // a small letter is the large one with one more bit
                if ((signAt(at + i) & ~32) != word.charAt(i)) {
                    return false;
                }
            }
            return true;
        }

        private int kindOfWord() {
            for (int kind = POINT; kind <= GEOMETRYCOLLECTION; kind++) {
                if (isWord(Writer.wordFor(kind))) {
                    return kind;
                }
            }
            return 0;
        }

        private boolean readShape() {
            skipBlanks();
            if (!isLetter(signAt(at))) {
                return unexpected();
            }
            int kind = kindOfWord();
            if (kind == 0) {
                return fail(WORD);
            }
            if (kind == GEOMETRYCOLLECTION && collections >= DEEPEST) {
                return fail(DEEP);
            }
            at = behindWord();
            skipBlanks();
            return shape.addShape(kind, 0) ? readEmptyOrBracket(kind) : fail(FULL);
        }

        private boolean readItem() {
            int kind = levelKind[depth - 1];
            shape.plan[levelCounter[depth - 1]]++;
            switch (kind) {
                case POLYGON:
                    return readRing();
                case MULTIPOINT:
                case MULTILINESTRING:
                case MULTIPOLYGON:
                    return readPart(kind - 3);
                case GEOMETRYCOLLECTION:
                    return readShape();
                default:
                    return readCoordinate();
            }
        }

        private boolean readRing() {
            skipBlanks();
            if (!shape.addRing(0)) {
                return fail(FULL);
            }
            return signAt(at) == '(' ? openLevel(RING) : unexpected();
        }

        private boolean readPart(int kind) {
            skipBlanks();
            if (!shape.addShape(kind, 0)) {
                return fail(FULL);
            }
            if (kind == POINT && beginsNumber(signAt(at))) {
                shape.plan[shape.plans - 1] = 1;
                return readCoordinate();
            }
            return readEmptyOrBracket(kind);
        }

        /** The counter of the shape is the last number of the plan so far. */
        private boolean readEmptyOrBracket(int kind) {
            skipBlanks();
            if (signAt(at) == '(') {
                return openLevel(kind);
            }
            if (!isLetter(signAt(at))) {
                return unexpected();
            }
            if (!isWord("EMPTY")) {
                return fail(WORD);
            }
            at = behindWord();
            return true;
        }

        private boolean openLevel(int kind) {
            if (depth >= LEVELS) {
                return fail(DEEP);
            }
            levelKind[depth] = kind;
            levelCounter[depth] = shape.plans - 1;
            depth++;
            if (kind == GEOMETRYCOLLECTION) {
                collections++;
            }
            at++;
            return true;
        }

        /** Behind a whole item stands a comma, or the bracket that closes its level, which ends an item too. */
        private boolean goOnBehindItem() {
            while (depth > 0) {
                skipBlanks();
                int kind = levelKind[depth - 1];
                int c = signAt(at);
                if (c == ',' && kind != POINT) {
                    at++;
                    return true;
                }
                if (c != ')') {
                    return unexpected();
                }
                at++;
                depth--;
                if (kind == GEOMETRYCOLLECTION) {
                    collections--;
                }
            }
            return true;
        }

        private boolean readCoordinate() {
            skipBlanks();
            if (!shape.hasRoomForPoint()) {
                return fail(FULL);
            }
            if (!readNumber()) {
                return false;
            }
            int x = number;
            return readNumber() && shape.addPoint(x, number);
        }

        private boolean readNumber() {
            skipBlanks();
            int first = signAt(at);
            if (!beginsNumber(first)) {
                return unexpected();
            }
            int from = isSign(first) ? at + 1 : at;
            int whole = digitsFrom(from);
            int i = from + whole;
            int fraction = 0;
            if (signAt(i) == '.') {
                fraction = digitsFrom(i + 1);
                i += 1 + fraction;
            }
            boolean good = whole + fraction > 0;
            int exponent = 0;
            if (good && (signAt(i) == 'e' || signAt(i) == 'E')) {
                int digitsAt = isSign(signAt(i + 1)) ? i + 2 : i + 1;
                int size = digitsFrom(digitsAt);
                good = size > 0;
                exponent = signAt(i + 1) == '-' ? -exponentFrom(digitsAt, size) : exponentFrom(digitsAt, size);
                i = digitsAt + size;
            }
            int behind = signAt(i);
            if (!good || beginsNumber(behind) || isLetter(behind)) {
                return fail(NUMBER);
            }
            long value = roundedFrom(from, whole, fraction, exponent + digits);
            if (value > FARTHEST) {
                return fail(RANGE);
            }
            number = (int) (first == '-' ? -value : value);
            at = i;
            return true;
        }

        private static boolean isSign(int c) {
            return c == '+' || c == '-';
        }

        private int digitsFrom(int from) {
            int i = from;
            while (i < length && isDigit(signAt(i))) {
                i++;
            }
            return i - from;
        }

        /** No text is long enough to make up for a power beyond the top. */
        private int exponentFrom(int from, int size) {
            int value = 0;
            for (int i = 0; i < size; i++) {
                value = Math.min(value * 10 + signAt(from + i) - '0', EXPONENT_TOP);
            }
            return value;
        }

        /** The digits (a dot stands behind the whole ones) times a power of ten, of two as near the even number. */
        private long roundedFrom(int from, int whole, int fraction, int power) {
            int kept = whole + power;
            long value = 0;
            int next = 0;
            boolean more = false;
            for (int i = 0; i < whole + fraction; i++) {
                int digit = signAt(i < whole ? from + i : from + i + 1) - '0';
                if (i < kept) {
                    value = Math.min(value * 10 + digit, TOO_MUCH);
                } else if (i == kept) {
                    next = digit;
                } else if (digit != 0) {
                    more = true;
                }
            }
            for (int i = whole + fraction; i < kept && value > 0 && value < TOO_MUCH; i++) {
                value = Math.min(value * 10, TOO_MUCH);
            }
            boolean up = next > 5 || next == 5 && (more || (value & 1) == 1);
            return up ? value + 1 : value;
        }
    }

    /** Reads bytes from the left to the right; each shape with parts still to come is a level. */
    private static final class ByteReader {
        private static final int ORDER = 1;
        private static final int KIND = 2;
        private static final int END = 3;
        private static final int NUMBER = 4;
        private static final int RANGE = 5;
        private static final int DEEP = 6;
        private static final int FULL = 7;
        private static final int BEHIND = 8;
        private static final int MORE = 9;
        private static final long MARK_BIT = 1L << 29;
        private static final int FRACTION_BITS = 52;
        private static final long FRACTION = (1L << FRACTION_BITS) - 1;
        private static final int INFINITE = 2047;

        private final int digits;
        private final byte[] text;
        private final long[] levelLeft = new long[LEVELS];
        private final int[] levelKind = new int[LEVELS];
        private Shape shape;
        private int length;
        private int at;
        private int depth;
        private int collections;
        private boolean lowFirst;
        private int number;
        int wrong;
        int place;

        ByteReader(int digits, byte[] text, Shape shape) {
            this.digits = digits;
            this.text = text;
            this.shape = shape;
        }

        boolean readInto(Shape into, int bytes) {
            shape = into;
            shape.clear();
            length = Math.min(bytes, text.length);
            at = 0;
            depth = 0;
            collections = 0;
            wrong = 0;
            place = 0;
            boolean good = readShape(0);
            // each round takes two numbers of the plan at least
            for (int round = 0; good && round <= Shape.MOST && isPartLeft(); round++) {
                levelLeft[depth - 1]--;
                int kind = levelKind[depth - 1];
                good = readShape(kind == GEOMETRYCOLLECTION ? 0 : kind - 3);
            }
            return good && (at >= length || fail(BEHIND));
        }

        /** Levels without a part left are closed first. */
        private boolean isPartLeft() {
            while (depth > 0 && levelLeft[depth - 1] <= 0) {
                depth--;
                if (levelKind[depth] == GEOMETRYCOLLECTION) {
                    collections--;
                }
            }
            return depth > 0;
        }

        private boolean fail(int code) {
            wrong = code;
            place = at;
            return false;
        }

        private boolean has(int bytes) {
            return length - at >= bytes;
        }

        /** A number without sign of so many bytes, in the order of the shape. */
        private long numberAt(int from, int bytes) {
            long value = 0;
            for (int i = 0; i < bytes; i++) {
                int index = lowFirst ? from + bytes - 1 - i : from + i;
                int next = index >= 0 && index < length ? text[index] & 255 : 0;
                value = value << 8 | next;
            }
            return value;
        }

        /** One shape without its parts; needed is the kind that it must have, or 0. */
        private boolean readShape(int needed) {
            if (!has(1)) {
                return fail(END);
            }
            if (text[at] != 0 && text[at] != 1) {
                return fail(ORDER);
            }
            lowFirst = text[at] == 1;
            at++;
            if (!has(4)) {
                return fail(END);
            }
            long type = numberAt(at, 4);
            int told = (int) (type & MARK_BIT - 1);
            int kind = told % 1000;
            if (told >= 4000 || kind < POINT || kind > GEOMETRYCOLLECTION || needed != 0 && kind != needed) {
                return fail(KIND);
            }
            if (told >= 1000 || type >>> 30 != 0) {
                return fail(MORE);
            }
            if (kind == GEOMETRYCOLLECTION && collections >= DEEPEST) {
                return fail(DEEP);
            }
            at += 4;
            if ((type & MARK_BIT) != 0) {
                if (!has(4)) {
                    return fail(END);
                }
                at += 4;
            }
            return shape.addShape(kind, 0) ? readBody(kind) : fail(FULL);
        }

        private boolean readBody(int kind) {
            int counter = shape.plans - 1;
            if (kind == POINT) {
                return readPoint(counter);
            }
            if (!has(4)) {
                return fail(END);
            }
            long parts = numberAt(at, 4);
            at += 4;
            // a count that the plan can't hold ends in a fault below, and no shape is left of it
            shape.plan[counter] = (int) parts;
            switch (kind) {
                case LINESTRING:
                    return readCoordinates(parts);
                case POLYGON:
                    return readRings(parts);
                default:
                    return openLevel(kind, parts);
            }
        }

        private boolean openLevel(int kind, long parts) {
            if (depth >= LEVELS) {
                return fail(DEEP);
            }
            levelKind[depth] = kind;
            levelLeft[depth] = parts;
            depth++;
            if (kind == GEOMETRYCOLLECTION) {
                collections++;
            }
            return true;
        }

        private boolean readPoint(int counter) {
            if (has(16) && isNoNumber(numberAt(at, 8)) && isNoNumber(numberAt(at + 8, 8))) {
                at += 16;
                return true;
            }
            shape.plan[counter] = 1;
            return readCoordinates(1);
        }

        private static boolean isNoNumber(long bits) {
            return (bits >>> FRACTION_BITS & INFINITE) == INFINITE && (bits & FRACTION) != 0;
        }

        private boolean readRings(long rings) {
            for (long ring = 0; ring < rings; ring++) {
                if (!shape.addRing(0)) {
                    return fail(FULL);
                }
                if (!has(4)) {
                    return fail(END);
                }
                long points = numberAt(at, 4);
                if (points == 0) {
                    return fail(NUMBER);
                }
                at += 4;
                shape.plan[shape.plans - 1] = (int) points;
                if (!readCoordinates(points)) {
                    return false;
                }
            }
            return true;
        }

        private boolean readCoordinates(long points) {
            for (long i = 0; i < points; i++) {
                if (!shape.hasRoomForPoint()) {
                    return fail(FULL);
                }
                if (!readNumber()) {
                    return false;
                }
                int x = number;
                if (!readNumber() || !shape.addPoint(x, number)) {
                    return false;
                }
            }
            return true;
        }

        private boolean readNumber() {
            if (!has(8)) {
                return fail(END);
            }
            long bits = numberAt(at, 8);
            int power = (int) (bits >>> FRACTION_BITS) & INFINITE;
            if (power == INFINITE) {
                return fail(NUMBER);
            }
            long value = roundedFrom(power, bits & FRACTION);
            if (value > FARTHEST) {
                return fail(RANGE);
            }
            number = (int) (bits < 0 ? -value : value);
            at += 8;
            return true;
        }

        /** The whole number nearest to the fraction's units, of two as near the even one. */
        private long roundedFrom(int power, long fraction) {
            long whole = power == 0 ? fraction : fraction + FRACTION + 1;
            int right = 1075 - Math.max(power, 1);
            long units = whole * UNITS[digits];
            if (right <= 0) {
                // a whole number of 53 bits at least
                return Long.MAX_VALUE;
            }
            if (right > 63) {
                // units have 63 bits at most: less than a half is left
                return 0;
            }
            long value = units >>> right;
            long rest = units - (value << right);
            long half = 1L << right - 1;
            boolean up = rest > half || rest == half && (value & 1) == 1;
            return up ? value + 1 : value;
        }
    }

    /** Tells a shape in words or in bytes; what it told last is the result. */
    private static final class Writer {
        /** 1024 shapes of 26 signs and 2048 points of 25 fit in. */
        private static final int MOST = 80000;
        private static final long EMPTY_BITS = 0x7FF8000000000000L;

        private final int digits;
        private final int[] levelKind = new int[LEVELS];
        private final int[] levelLeft = new int[LEVELS];
        private boolean lowFirst;
        final byte[] row = new byte[MOST];
        int size;

        Writer(int digits) {
            this.digits = digits;
        }

        static String wordFor(int kind) {
            switch (kind) {
                case POINT:
                    return "POINT";
                case LINESTRING:
                    return "LINESTRING";
                case POLYGON:
                    return "POLYGON";
                case MULTIPOINT:
                    return "MULTIPOINT";
                case MULTILINESTRING:
                    return "MULTILINESTRING";
                case MULTIPOLYGON:
                    return "MULTIPOLYGON";
                default:
                    return "GEOMETRYCOLLECTION";
            }
        }

        private void put(int value) {
            if (size < MOST) {
                row[size] = (byte) value;
                size++;
            }
        }

        private void putText(String text) {
            for (int i = 0; i < text.length(); i++) {
                put(text.charAt(i));
            }
        }

        int tellInWords(Shape shape) {
            size = 0;
            int depth = 0;
            int from = 0;
            for (int at = 0; at + 1 < shape.plans; at = shape.behind(at)) {
                int kind = shape.plan[at];
                int parts = shape.plan[at + 1];
                // a part of a MULTI.. has no word of its own
                if (depth == 0 || levelKind[depth - 1] == GEOMETRYCOLLECTION) {
                    putText(wordFor(kind));
                    put(' ');
                }
                if (parts > 0 && kind > POLYGON && depth < LEVELS) {
                    put('(');
                    levelKind[depth] = kind;
                    levelLeft[depth] = parts;
                    depth++;
                    continue;
                }
                putRows(shape, at, from);
                from += shape.pointsAt(at);
                depth = closeLevels(depth);
            }
            return size;
        }

        /** Behind a whole part: the levels that it ends; how many are open still. */
        private int closeLevels(int open) {
            int depth = open;
            while (depth > 0) {
                levelLeft[depth - 1]--;
                if (levelLeft[depth - 1] > 0) {
                    putText(", ");
                    return depth;
                }
                put(')');
                depth--;
            }
            return 0;
        }

        private void putRows(Shape shape, int at, int from) {
            if (shape.plan[at + 1] == 0) {
                putText("EMPTY");
                return;
            }
            boolean rings = shape.plan[at] == POLYGON;
            if (rings) {
                put('(');
            }
            int start = from;
            for (int row = 0; row < shape.rows(at); row++) {
                if (row > 0) {
                    putText(", ");
                }
                int length = shape.rowLength(at, row);
                putCoordinates(shape, start, length);
                start += length;
            }
            if (rings) {
                put(')');
            }
        }

        private void putCoordinates(Shape shape, int from, int length) {
            put('(');
            for (int i = 0; i < length; i++) {
                if (i > 0) {
                    putText(", ");
                }
                putNumber(shape.x[from + i]);
                put(' ');
                putNumber(shape.y[from + i]);
            }
            put(')');
        }

        private void putNumber(int units) {
            if (units < 0) {
                put('-');
            }
            int value = Math.abs(units);
            int one = UNITS[digits];
            int whole = value / one;
            for (int step = 1000000000; step > 0; step /= 10) {
                if (whole >= step || step == 1) {
                    put('0' + whole / step % 10);
                }
            }
            int rest = value % one;
            if (rest > 0) {
                put('.');
            }
            for (int step = one / 10; step > 0 && rest > 0; step /= 10) {
                put('0' + rest / step);
                rest %= step;
            }
        }

        int tellInBytes(Shape shape, int order) {
            size = 0;
            lowFirst = order == 1;
            int from = 0;
            for (int at = 0; at + 1 < shape.plans; at = shape.behind(at)) {
                int kind = shape.plan[at];
                put(order);
                putBytes(kind, 4);
                if (kind != POINT) {
                    putBytes(shape.plan[at + 1], 4);
                } else if (shape.plan[at + 1] == 0) {
                    putBytes(EMPTY_BITS, 8);
                    putBytes(EMPTY_BITS, 8);
                }
                for (int row = 0; row < shape.rows(at); row++) {
                    int length = shape.rowLength(at, row);
                    if (kind == POLYGON) {
                        putBytes(length, 4);
                    }
                    for (int i = from; i < from + length; i++) {
                        putBytes(bitsOf(shape.x[i]), 8);
                        putBytes(bitsOf(shape.y[i]), 8);
                    }
                    from += length;
                }
            }
            return size;
        }

        private void putBytes(long value, int bytes) {
            for (int i = 0; i < bytes; i++) {
                int shift = lowFirst ? 8 * i : 8 * (bytes - 1 - i);
                put((int) (value >>> shift));
            }
        }

        /** The binary fraction nearest to so many units. */
        private long bitsOf(int units) {
            if (units == 0) {
                return 0;
            }
            long value = Math.abs((long) units);
            int one = UNITS[digits];
            long least = 1L << 52;
            int shift = 0;
            // 53 bits before the dot; value << shift stays below 2 to the power 63
            while (shift < 63 && (value << shift) / one < least) {
                shift++;
            }
            long whole = (value << shift) / one;
            long rest = (value << shift) % one;
            if (2 * rest > one || 2 * rest == one && (whole & 1) == 1) {
                whole++;
            }
            if (whole == 2 * least) {
                whole = least;
                shift--;
            }
            long bits = ((long) (1075 - shift) << 52) + whole - least;
            return units < 0 ? bits | Long.MIN_VALUE : bits;
        }
    }

    /** Rows of segments of some length, each with a mark, and what two of them have in common. */
    private static final class Segments {
        static final int APART = 0;
        /** One place in common, an end of neither. */
        static final int CROSSING = 1;
        /** One place in common, an end of one: placeX, placeY. */
        static final int TOUCHING = 2;
        /** More than one place in common. */
        static final int ALONG = 3;

        final int[] ax;
        final int[] ay;
        final int[] bx;
        final int[] by;
        final int[] mark;
        int size;
        int placeX;
        int placeY;

        Segments(int most) {
            ax = new int[most];
            ay = new int[most];
            bx = new int[most];
            by = new int[most];
            mark = new int[most];
        }

        boolean add(Shape shape, int from, int to, int itsMark) {
            if (size >= ax.length) {
                return false;
            }
            ax[size] = shape.x[from];
            ay[size] = shape.y[from];
            bx[size] = shape.x[to];
            by[size] = shape.y[to];
            mark[size] = itsMark;
            size++;
            return true;
        }

        int lowX(int i) {
            return Math.min(ax[i], bx[i]);
        }

        int highX(int i) {
            return Math.max(ax[i], bx[i]);
        }

        int lowY(int i) {
            return Math.min(ay[i], by[i]);
        }

        int highY(int i) {
            return Math.max(ay[i], by[i]);
        }

        boolean begins(int i, int x, int y) {
            return ax[i] == x && ay[i] == y;
        }

        boolean ends(int i, int x, int y) {
            return bx[i] == x && by[i] == y;
        }

        boolean areApart(int i, int j) {
            return lowX(i) > highX(j) || lowX(j) > highX(i) || lowY(i) > highY(j) || lowY(j) > highY(i);
        }

        int turn(int i, int x, int y) {
            return turnOf(ax[i], ay[i], bx[i], by[i], x, y);
        }

        boolean holds(int i, int x, int y) {
            return isOnSegment(ax[i], ay[i], bx[i], by[i], x, y);
        }

        int meet(int i, int j) {
            if (areApart(i, j)) {
                return APART;
            }
            int begin = turn(i, ax[j], ay[j]);
            int end = turn(i, bx[j], by[j]);
            if (begin == 0 && end == 0) {
                return meetOnOneLine(i, j);
            }
            if (begin * end > 0) {
                return APART;
            }
            int otherBegin = turn(j, ax[i], ay[i]);
            int otherEnd = turn(j, bx[i], by[i]);
            if (otherBegin * otherEnd > 0) {
                return APART;
            }
            if (begin * end < 0 && otherBegin * otherEnd < 0) {
                return CROSSING;
            }
            if (begin == 0 || end == 0) {
                return touchAtEnd(j, begin == 0);
            }
            return touchAtEnd(i, otherBegin == 0);
        }

        private int touchAtEnd(int i, boolean atBegin) {
            placeX = atBegin ? ax[i] : bx[i];
            placeY = atBegin ? ay[i] : by[i];
            return TOUCHING;
        }

        /** Places on one line are told apart by x, on an upright line by y. */
        private int meetOnOneLine(int i, int j) {
            boolean upright = ax[i] == bx[i];
            int low = upright ? Math.max(lowY(i), lowY(j)) : Math.max(lowX(i), lowX(j));
            int high = upright ? Math.min(highY(i), highY(j)) : Math.min(highX(i), highX(j));
            if (low > high) {
                return APART;
            }
            return low < high ? ALONG : touchAtEnd(i, (upright ? ay[i] : ax[i]) == low);
        }
    }

    /** Looks for what is wrong with a shape; the rings of the polygons in question lie in one table. */
    private static final class Judge {
        static final int PLACES = 7;
        private static final int OPEN = 1;
        private static final int FEW = 2;
        private static final int SHARED = 3;
        private static final int CROSSED = 4;
        private static final int TOUCHES = 5;
        private static final int OUT = 6;
        private static final int NESTED = 7;
        private static final int SPLIT = 8;
        private static final int PARTS_SHARED = 9;
        private static final int PARTS_CROSSED = 10;
        private static final int INNER = 11;

        final int[] place = new int[PLACES];
        private final Segments segments = new Segments(Shape.MOST);
        /** The number of each segment within its ring. */
        private final int[] number = new int[Shape.MOST];
        private final int[] ringPart = new int[Shape.MOST];
        private final int[] ringNumber = new int[Shape.MOST];
        private final int[] ringBegin = new int[Shape.MOST];
        private final int[] ringEnd = new int[Shape.MOST];
        private int rings;
        private final int[] partBegin = new int[Shape.MOST];
        private final int[] partEnd = new int[Shape.MOST];
        /** Rings that are joined lead to one root. */
        private final int[] joined = new int[Shape.MOST];

        Judge() {
            Arrays.fill(place, NONE);
        }

        int firstFault(Shape shape) {
            Arrays.fill(place, NONE);
            int from = 0;
            int number = 0;
            int judged = 0;
            for (int at = 0; at + 1 < shape.plans; at = shape.behind(at)) {
                int kind = shape.plan[at];
                int fault = 0;
                if (kind == LINESTRING) {
                    fault = isOfOnePlace(shape, from, shape.plan[at + 1]) ? FEW : 0;
                } else if (kind == MULTIPOLYGON) {
                    judged = shape.plan[at + 1];
                    fault = polygonsFault(shape, at + 2, from, judged);
                    fault = fault != 0 ? fault : innerFault(judged);
                } else if (kind == POLYGON && judged > 0) {
                    judged--;
                } else if (kind == POLYGON) {
                    fault = polygonsFault(shape, at, from, 1);
                }
                if (fault != 0) {
                    place[0] = number;
                    return fault;
                }
                from += shape.pointsAt(at);
                number++;
            }
            return 0;
        }

        private static boolean isOfOnePlace(Shape shape, int from, int length) {
            for (int i = 1; i < length; i++) {
                if (!shape.areLike(from, from + i)) {
                    return false;
                }
            }
            return length > 0;
        }

        private int polygonsFault(Shape shape, int first, int begin, int parts) {
            segments.size = 0;
            rings = 0;
            int at = first;
            int from = begin;
            for (int part = 0; part < parts && at + 1 < shape.plans; part++) {
                int fault = ringsFault(shape, at, from, part);
                if (fault == 0) {
                    layOut(shape, at, from, part);
                    fault = pairsFault(part);
                }
                if (fault == 0) {
                    fault = holesFault(part);
                }
                if (fault == 0 && isSplit(part)) {
                    fault = tell(SPLIT, part, NONE);
                }
                if (fault != 0) {
                    return fault;
                }
                from += shape.pointsAt(at);
                at = shape.behind(at);
            }
            return partPairsFault(parts);
        }

        private int tell(int fault, int part, int ring) {
            place[1] = part;
            place[2] = ring;
            return fault;
        }

        private int tellPair(int fault, int i, int j) {
            int one = segments.mark[i];
            int other = segments.mark[j];
            place[1] = ringPart[one];
            place[2] = ringNumber[one];
            place[3] = number[i];
            place[4] = ringPart[other];
            place[5] = ringNumber[other];
            place[6] = number[j];
            return fault;
        }

        private int ringsFault(Shape shape, int at, int begin, int part) {
            int from = begin;
            for (int ring = 0; ring < shape.rows(at); ring++) {
                int length = shape.rowLength(at, ring);
                if (!shape.isClosed(from, length)) {
                    return tell(OPEN, part, ring);
                }
                if (!hasThreePlaces(shape, from, length)) {
                    return tell(FEW, part, ring);
                }
                from += length;
            }
            return 0;
        }

        private static boolean hasThreePlaces(Shape shape, int from, int length) {
            int second = from;
            for (int i = from + 1; i < from + length; i++) {
                if (shape.areLike(from, i)) {
                    continue;
                }
                if (second == from) {
                    second = i;
                } else if (!shape.areLike(second, i)) {
                    return true;
                }
            }
            return false;
        }

        /** The rings and segments of a part, in the order of their numbers. */
        private void layOut(Shape shape, int at, int begin, int part) {
            int from = begin;
            partBegin[part] = rings;
            for (int ring = 0; ring < shape.rows(at) && rings < Shape.MOST; ring++) {
                int length = shape.rowLength(at, ring);
                ringPart[rings] = part;
                ringNumber[rings] = ring;
                ringBegin[rings] = segments.size;
                for (int i = 0; i + 1 < length && segments.size < Shape.MOST; i++) {
                    if (!shape.areLike(from + i, from + i + 1)) {
                        number[segments.size] = i;
                        segments.add(shape, from + i, from + i + 1, rings);
                    }
                }
                ringEnd[rings] = segments.size;
                rings++;
                from += length;
            }
            partEnd[part] = rings;
        }

        private boolean isEmpty(int part) {
            return partBegin[part] >= partEnd[part];
        }

        private int pairsFault(int part) {
            if (isEmpty(part)) {
                return 0;
            }
            int end = ringEnd[partEnd[part] - 1];
            for (int i = ringBegin[partBegin[part]]; i < end; i++) {
                for (int j = i + 1; j < end; j++) {
                    int fault = segments.areApart(i, j) ? 0 : pairFault(i, j);
                    if (fault != 0) {
                        return tellPair(fault, i, j);
                    }
                }
            }
            return 0;
        }

        private int pairFault(int i, int j) {
            int common = segments.meet(i, j);
            if (common == Segments.APART) {
                return 0;
            }
            if (common == Segments.ALONG) {
                return SHARED;
            }
            if (common == Segments.CROSSING) {
                return CROSSED;
            }
            if (segments.mark[i] != segments.mark[j]) {
                return ringsCrossBehind(i, j) ? CROSSED : 0;
            }
            return leadsOnTo(i, j) || leadsOnTo(j, i) ? 0 : TOUCHES;
        }

        /** Whether the place of the latest meeting is where one segment of a ring hands over to the other. */
        private boolean leadsOnTo(int i, int j) {
            return nextOf(i) == j && segments.ends(i, segments.placeX, segments.placeY)
                    && segments.begins(j, segments.placeX, segments.placeY);
        }

        private int nextOf(int i) {
            int ring = segments.mark[i];
            return i + 1 < ringEnd[ring] ? i + 1 : ringBegin[ring];
        }

        /** Each passing is looked at with the segment that leads to the place, not the one that begins there. */
        private boolean ringsCrossBehind(int i, int j) {
            int x = segments.placeX;
            int y = segments.placeY;
            if (segments.begins(i, x, y) || segments.begins(j, x, y)) {
                return false;
            }
            int on = segments.ends(i, x, y) ? nextOf(i) : i;
            int otherOn = segments.ends(j, x, y) ? nextOf(j) : j;
            return isLeft(i, on, segments.bx[otherOn], segments.by[otherOn])
                    != isLeft(i, on, segments.ax[j], segments.ay[j]);
        }

        /** Whether the way from the meeting to x, y is left between the way to the end of on and that back along i. */
        private boolean isLeft(int i, int on, int x, int y) {
            int placeX = segments.placeX;
            int placeY = segments.placeY;
            int onX = segments.bx[on];
            int onY = segments.by[on];
            int backX = segments.ax[i];
            int backY = segments.ay[i];
            int fromOn = turnOf(placeX, placeY, onX, onY, x, y);
            int fromBack = turnOf(placeX, placeY, backX, backY, x, y);
            int bend = turnOf(placeX, placeY, onX, onY, backX, backY);
            if (bend > 0) {
                return fromOn > 0 && fromBack < 0;
            }
            if (bend < 0) {
                return fromOn > 0 || fromBack < 0;
            }
            boolean oneDirection = (onX > placeX) == (backX > placeX) && (onX < placeX) == (backX < placeX)
                    && (onY > placeY) == (backY > placeY) && (onY < placeY) == (backY < placeY);
            return !oneDirection && fromOn > 0;
        }

        private int holesFault(int part) {
            if (isEmpty(part)) {
                return 0;
            }
            int shell = partBegin[part];
            for (int hole = shell + 1; hole < partEnd[part]; hole++) {
                if (!liesIn(hole, shell)) {
                    return tell(OUT, part, ringNumber[hole]);
                }
            }
            for (int hole = shell + 1; hole < partEnd[part]; hole++) {
                for (int other = hole + 1; other < partEnd[part]; other++) {
                    if (liesIn(hole, other) || liesIn(other, hole)) {
                        place[4] = part;
                        place[5] = ringNumber[other];
                        return tell(NESTED, part, ringNumber[hole]);
                    }
                }
            }
            return 0;
        }

        private boolean liesIn(int ring, int other) {
            for (int i = ringBegin[ring]; i < ringEnd[ring]; i++) {
                int where = whereIs(other, segments.ax[i], segments.ay[i]);
                if (where != RIM) {
                    return where == INSIDE;
                }
            }
            return ringBegin[ring] < ringEnd[ring] && isInsideBehindBegin(other, ringBegin[ring]);
        }

        private int whereIs(int ring, int x, int y) {
            boolean odd = false;
            for (int k = ringBegin[ring]; k < ringEnd[ring]; k++) {
                int ax = segments.ax[k];
                int ay = segments.ay[k];
                int bx = segments.bx[k];
                int by = segments.by[k];
                if (isOnSegment(ax, ay, bx, by, x, y)) {
                    return RIM;
                }
                if (isCrossedFrom(ax, ay, bx, by, x, y)) {
                    odd = !odd;
                }
            }
            return odd ? INSIDE : OUTSIDE;
        }

        /** Whether a place as little behind the beginning of a segment as one wants lies within a ring. */
        private boolean isInsideBehindBegin(int ring, int i) {
            int x = segments.ax[i];
            int y = segments.ay[i];
            long wayX = (long) segments.bx[i] - x;
            long wayY = (long) segments.by[i] - y;
            boolean odd = false;
            for (int k = ringBegin[ring]; k < ringEnd[ring]; k++) {
                // an end as high as the beginning is above the place when the way leads down
                boolean beginAbove = segments.ay[k] > y || segments.ay[k] == y && wayY < 0;
                boolean endAbove = segments.by[k] > y || segments.by[k] == y && wayY < 0;
                if (beginAbove == endAbove) {
                    continue;
                }
                int turn = segments.turn(k, x, y);
                if (turn == 0) {
                    turn = turnOf(0, 0, (long) segments.bx[k] - segments.ax[k], (long) segments.by[k] - segments.ay[k],
                            wayX, wayY);
                }
                if (endAbove ? turn > 0 : turn < 0) {
                    odd = !odd;
                }
            }
            return odd;
        }

        /** Each place where rings touch is looked at once, with the lowest ring that has a corner there. */
        private boolean isSplit(int part) {
            if (partEnd[part] - partBegin[part] < 2) {
                return false;
            }
            for (int ring = partBegin[part]; ring < partEnd[part]; ring++) {
                joined[ring] = ring;
            }
            for (int ring = partBegin[part]; ring < partEnd[part]; ring++) {
                for (int i = ringBegin[ring]; i < ringEnd[ring]; i++) {
                    if (joinsInRound(part, ring, segments.ax[i], segments.ay[i])) {
                        return true;
                    }
                }
            }
            return false;
        }

        private boolean joinsInRound(int part, int ring, int x, int y) {
            for (int k = ringBegin[partBegin[part]]; k < ringBegin[ring]; k++) {
                if (segments.begins(k, x, y)) {
                    return false;
                }
            }
            for (int other = partBegin[part]; other < partEnd[part]; other++) {
                if (other == ring || !passes(other, x, y)) {
                    continue;
                }
                int root = rootOf(ring);
                int otherRoot = rootOf(other);
                if (root == otherRoot) {
                    return true;
                }
                joined[otherRoot] = root;
            }
            return false;
        }

        private boolean passes(int ring, int x, int y) {
            for (int k = ringBegin[ring]; k < ringEnd[ring]; k++) {
                if (isOnSegment(segments.ax[k], segments.ay[k], segments.bx[k], segments.by[k], x, y)) {
                    return true;
                }
            }
            return false;
        }

        private int rootOf(int ring) {
            int root = ring;
            for (int step = 0; step < rings && joined[root] != root; step++) {
                root = joined[root];
            }
            return root;
        }

        private int partPairsFault(int parts) {
            for (int part = 0; part + 1 < parts; part++) {
                if (isEmpty(part)) {
                    continue;
                }
                int end = ringEnd[partEnd[part] - 1];
                for (int i = ringBegin[partBegin[part]]; i < end; i++) {
                    for (int j = end; j < segments.size; j++) {
                        int fault = segments.areApart(i, j) ? 0 : pairFault(i, j);
                        if (fault != 0) {
                            return tellPair(fault == SHARED ? PARTS_SHARED : PARTS_CROSSED, i, j);
                        }
                    }
                }
            }
            return 0;
        }

        private int innerFault(int parts) {
            for (int part = 0; part < parts; part++) {
                for (int other = part + 1; other < parts; other++) {
                    if (liesInPart(part, other) || liesInPart(other, part)) {
                        place[4] = other;
                        return tell(INNER, part, NONE);
                    }
                }
            }
            return 0;
        }

        private boolean liesInPart(int part, int other) {
            if (isEmpty(part) || isEmpty(other)) {
                return false;
            }
            int shell = partBegin[part];
            if (!liesIn(shell, partBegin[other])) {
                return false;
            }
            for (int hole = partBegin[other] + 1; hole < partEnd[other]; hole++) {
                if (liesIn(shell, hole)) {
                    return false;
                }
            }
            return true;
        }
    }

    /** Snaps the segments of two shapes to hot pixels: pieces between these, and which shape each one bounds. */
    private static final class Snapper {
        static final int SEGMENTS = 2048;
        static final int HOT = 8192;
        static final int PLACES = 16384;
        static final int FIRST = 1;
        static final int SECOND = 2;
        private static final int HOT_BITS = 13;

        private final Segments segments = new Segments(SEGMENTS);
        /** Segments without length: each lies in one pixel. */
        private int lengthless;
        /** Hot pixels, some of them told again until they are sorted out. */
        private final long[] keys = new long[2 * HOT];
        private int keyCount;
        private final long[] order = new long[PLACES];
        private final int[] chain = new int[HOT];
        final int[] hotX = new int[HOT];
        final int[] hotY = new int[HOT];
        int hot;
        final int[] pieceFrom = new int[PLACES];
        final int[] pieceTo = new int[PLACES];
        final int[] pieceMask = new int[PLACES];
        int pieces;

        /** False, when there is more than the document allows. */
        boolean snap(Shape one, Shape two) {
            segments.size = 0;
            lengthless = 0;
            keyCount = 0;
            return collect(one, FIRST) && collect(two, SECOND) && addCrossings() && sortHot() && layChains();
        }

        private boolean collect(Shape shape, int mask) {
            int from = 0;
            for (int at = 0; at + 1 < shape.plans; at = shape.behind(at)) {
                for (int row = 0; row < shape.rows(at); row++) {
                    int length = shape.rowLength(at, row);
                    for (int i = from; i + 1 < from + length; i++) {
                        if (!addSegment(shape, i, mask)) {
                            return false;
                        }
                    }
                    from += length;
                }
            }
            return true;
        }

        private boolean addSegment(Shape shape, int i, int mask) {
            if (segments.size + lengthless >= SEGMENTS) {
                return false;
            }
            if (shape.areLike(i, i + 1)) {
                lengthless++;
            } else {
                segments.add(shape, i, i + 1, mask);
            }
            return addHot(shape.x[i], shape.y[i]) && addHot(shape.x[i + 1], shape.y[i + 1]);
        }

        private boolean addHot(int x, int y) {
            if (keyCount >= keys.length && !sortOutKeys()) {
                return false;
            }
            keys[keyCount] = keyOf(x, y);
            keyCount++;
            return true;
        }

        private boolean sortOutKeys() {
            sortRow(keys, keyCount);
            keyCount = leaveEachOnce(keys, keyCount);
            return keyCount <= HOT;
        }

        /** In the order of their least x, so that each is looked at with those alone that may reach it. */
        private boolean addCrossings() {
            for (int i = 0; i < segments.size; i++) {
                order[i] = (long) segments.lowX(i) << 32 | i;
            }
            sortRow(order, segments.size);
            for (int a = 0; a < segments.size; a++) {
                int i = (int) order[a];
                int high = segments.highX(i);
                for (int b = a + 1; b < segments.size && order[b] >> 32 <= high; b++) {
                    int j = (int) order[b];
                    if (segments.meet(i, j) == Segments.CROSSING && !addCrossing(i, j)) {
                        return false;
                    }
                }
            }
            return true;
        }

        /** The crossing lies on i at the part share / whole of its way. */
        private boolean addCrossing(int i, int j) {
            int wayX = segments.bx[i] - segments.ax[i];
            int wayY = segments.by[i] - segments.ay[i];
            long otherX = (long) segments.bx[j] - segments.ax[j];
            long otherY = (long) segments.by[j] - segments.ay[j];
            long betweenX = (long) segments.ax[j] - segments.ax[i];
            long betweenY = (long) segments.ay[j] - segments.ay[i];
            long whole = Math.abs(wayX * otherY - wayY * otherX);
            long share = Math.abs(betweenX * otherY - betweenY * otherX);
            return addHot(pixelAt(segments.ax[i], wayX, share, whole), pixelAt(segments.ay[i], wayY, share, whole));
        }

        /** The pixel of start + way * share / whole, where 0 < share < whole, and whole is 2 * 10^18 at most. */
        private static int pixelAt(int start, int way, long share, long whole) {
            if (whole <= 0) {
                return start;
            }
            long size = Math.abs(way);
            long value = 0;
            long rest = 0;
            if (share <= Integer.MAX_VALUE) {
                value = size * share / whole;
                rest = size * share % whole;
            } else {
                // long division by the bits of the way, so that no number has more than 63 bits
                for (int bit = 30; bit >= 0; bit--) {
                    rest = 2 * rest + ((size >> bit & 1) == 1 ? share : 0);
                    long times = rest / whole;
                    rest -= times * whole;
                    value = 2 * value + times;
                }
            }
            boolean half = way >= 0 ? 2 * rest >= whole : 2 * rest > whole;
            long moved = half ? value + 1 : value;
            return (int) (way >= 0 ? start + moved : start - moved);
        }

        private boolean sortHot() {
            if (!sortOutKeys()) {
                return false;
            }
            hot = keyCount;
            for (int i = 0; i < hot; i++) {
                hotX[i] = keyX(keys[i]);
                hotY[i] = keyY(keys[i]);
            }
            return true;
        }

        private boolean layChains() {
            int places = lengthless;
            int told = 0;
            for (int i = 0; i < segments.size; i++) {
                int size = layChain(i);
                places += size;
                if (places > PLACES) {
                    return false;
                }
                for (int k = 0; k + 1 < size; k++) {
                    long low = Math.min(chain[k], chain[k + 1]);
                    long high = Math.max(chain[k], chain[k + 1]);
                    order[told] = (low << HOT_BITS | high) << 2 | segments.mark[i];
                    told++;
                }
            }
            sortRow(order, told);
            leavePieces(told);
            return true;
        }

        /** The hot pixels that a segment meets, as one goes along it from the left, or upwards. */
        private int layChain(int i) {
            boolean turned = segments.ax[i] > segments.bx[i]
                    || segments.ax[i] == segments.bx[i] && segments.ay[i] > segments.by[i];
            int fromX = turned ? segments.bx[i] : segments.ax[i];
            int fromY = turned ? segments.by[i] : segments.ay[i];
            int wayX = (turned ? segments.ax[i] : segments.bx[i]) - fromX;
            int wayY = (turned ? segments.ay[i] : segments.by[i]) - fromY;
            int lowY = segments.lowY(i);
            int highY = segments.highY(i);
            int highX = segments.highX(i);
            int size = 0;
            int column = 0;
            for (int h = firstHotFrom(fromX); h < hot && hotX[h] <= highX; h++) {
                if (hotY[h] < lowY || hotY[h] > highY
                        || !meetsPixel(wayX, wayY, 2L * hotX[h] - 2L * fromX, 2L * hotY[h] - 2L * fromY)) {
                    continue;
                }
                // on the way down, of pixels above one another the highest is the first
                column = size > 0 && hotX[chain[size - 1]] == hotX[h] ? column + 1 : 0;
                chain[size] = h;
                size++;
                if (wayY < 0) {
                    moveToFront(size - 1 - column, size - 1);
                }
            }
            return size;
        }

        private void moveToFront(int first, int last) {
            int moved = chain[last];
            for (int k = last; k > first; k--) {
                chain[k] = chain[k - 1];
            }
            chain[first] = moved;
        }

        private int firstHotFrom(int x) {
            int low = 0;
            int high = hot;
            while (low < high) {
                int middle = low + (high - low) / 2;
                if (hotX[middle] < x) {
                    low = middle + 1;
                } else {
                    high = middle;
                }
            }
            return low;
        }

        /**
         * Whether a segment from 0, 0 has a place in a pixel within its box; x and y are twice the pixel's. A pixel has
         * its left and its lower side, not the others: the bounds of the way within it are compared as fractions.
         */
        private static boolean meetsPixel(long wayX, long wayY, long x, long y) {
            if (wayX == 0 || wayY == 0) {
                return true;
            }
            if (wayY > 0) {
                return (x - 1) * wayY < (y + 1) * wayX && (y - 1) * wayX < (x + 1) * wayY;
            }
            return (x - 1) * wayY >= (y - 1) * wayX && (y + 1) * wayX > (x + 1) * wayY;
        }

        /** Of pieces told several times those that bound a shape. */
        private void leavePieces(int told) {
            pieces = 0;
            int mask = 0;
            for (int i = 0; i < told; i++) {
                long piece = order[i] >> 2;
                mask ^= (int) (order[i] & 3);
                if (i + 1 < told && order[i + 1] >> 2 == piece) {
                    continue;
                }
                if (mask != 0) {
                    pieceFrom[pieces] = (int) (piece >> HOT_BITS);
                    pieceTo[pieces] = (int) (piece & HOT - 1);
                    pieceMask[pieces] = mask;
                    pieces++;
                }
                mask = 0;
            }
        }
    }

    /** Makes the polygons of a result out of the snapped pieces. */
    private static final class RingMaker {
        /** A ring has three corners at least, and the first one once more. */
        private static final int RINGS = Shape.MOST / 4;
        private static final int RING_BITS = 9;

        private final Snapper snapped;
        /** What lies above each piece, to the left of its way: bits as of Snapper. */
        private final int[] above = new int[Snapper.PLACES];
        /** Pieces that a line straight upwards meets, the lowest first. */
        private final int[] active = new int[Snapper.PLACES];
        private int actives;
        private final boolean[] isBoundary = new boolean[Snapper.PLACES];
        private final boolean[] goesBack = new boolean[Snapper.PLACES];
        /** Pieces of the boundary at each hot pixel: those of h lie from begin[h] on, below begin[h + 1]. */
        private final int[] begin = new int[Snapper.HOT + 2];
        private final int[] incident = new int[2 * Snapper.PLACES];
        private final int[] path = new int[Snapper.HOT + 1];
        /** Where in the path a hot pixel is, plus 1; 0 when it is not. */
        private final int[] onPath = new int[Snapper.HOT];
        private final int[] corner = new int[Shape.MOST];
        private int corners;
        private final int[] ringBegin = new int[RINGS + 1];
        private final long[] ringArea = new long[RINGS];
        private final int[] shellOf = new int[RINGS];
        private final long[] order = new long[RINGS];
        private int rings;

        RingMaker(Snapper snapped) {
            this.snapped = snapped;
        }

        /** False, when the result is more than a shape may be. */
        boolean make(int way, Shape into) {
            sweep();
            markBoundary(way);
            listIncident();
            if (!traceRings()) {
                return false;
            }
            giveHolesToShells();
            sortRings();
            return tellPolygons(into);
        }

        /** Passes the hot pixels in their order; pieces meet nowhere else. */
        private void sweep() {
            actives = 0;
            int fresh = 0;
            for (int h = 0; h < snapped.hot; h++) {
                int low = firstNotBelow(h);
                int high = low;
                while (high < actives && snapped.pieceTo[active[high]] == h) {
                    high++;
                }
                int begun = fresh;
                while (fresh < snapped.pieces && snapped.pieceFrom[fresh] == h) {
                    fresh++;
                }
                replaceActive(low, high, begun, fresh);
            }
        }

        private int firstNotBelow(int h) {
            int low = 0;
            int high = actives;
            while (low < high) {
                int middle = low + (high - low) / 2;
                int piece = active[middle];
                if (turnAt(snapped.pieceFrom[piece], snapped.pieceTo[piece], h) > 0) {
                    low = middle + 1;
                } else {
                    high = middle;
                }
            }
            return low;
        }

        private int turnAt(int a, int b, int c) {
            return turnOf(snapped.hotX[a], snapped.hotY[a], snapped.hotX[b], snapped.hotY[b],
                    snapped.hotX[c], snapped.hotY[c]);
        }

        /** Instead of the pieces that end here those that begin here, the lowest way first. */
        private void replaceActive(int low, int high, int begun, int fresh) {
            System.arraycopy(active, high, active, low + fresh - begun, actives - high);
            actives += fresh - begun - (high - low);
            for (int piece = begun; piece < fresh; piece++) {
                int at = low + piece - begun;
                while (at > low && turnAt(snapped.pieceFrom[piece], snapped.pieceTo[active[at - 1]],
                        snapped.pieceTo[piece]) < 0) {
                    active[at] = active[at - 1];
                    at--;
                }
                active[at] = piece;
            }
            int inside = low > 0 ? above[active[low - 1]] : 0;
            for (int at = low; at < low + fresh - begun; at++) {
                inside ^= snapped.pieceMask[active[at]];
                above[active[at]] = inside;
            }
        }

        private static boolean isInResult(int way, int inside) {
            boolean first = (inside & Snapper.FIRST) != 0;
            boolean second = (inside & Snapper.SECOND) != 0;
            switch (way) {
                case 0:
                    return first && second;
                case 1:
                    return first || second;
                case 2:
                    return first && !second;
                case 3:
                    return first != second;
                default:
                    return second && !first;
            }
        }

        /** A piece of the boundary goes so that the result lies to the left. */
        private void markBoundary(int way) {
            for (int piece = 0; piece < snapped.pieces; piece++) {
                boolean left = isInResult(way, above[piece]);
                boolean right = isInResult(way, above[piece] ^ snapped.pieceMask[piece]);
                isBoundary[piece] = left != right;
                goesBack[piece] = right;
            }
        }

        private void listIncident() {
            int behind = snapped.hot + 2;
            Arrays.fill(begin, 0, behind, 0);
            for (int piece = 0; piece < snapped.pieces; piece++) {
                if (isBoundary[piece]) {
                    begin[snapped.pieceFrom[piece] + 2]++;
                    begin[snapped.pieceTo[piece] + 2]++;
                }
            }
            for (int h = 2; h < behind; h++) {
                begin[h] += begin[h - 1];
            }
            for (int piece = 0; piece < snapped.pieces; piece++) {
                if (isBoundary[piece]) {
                    addIncident(snapped.pieceFrom[piece], piece);
                    addIncident(snapped.pieceTo[piece], piece);
                }
            }
        }

        /** While the list is made, begin[h + 1] is where the next piece of h is put. */
        private void addIncident(int h, int piece) {
            incident[begin[h + 1]] = piece;
            begin[h + 1]++;
        }

        private int startOf(int piece) {
            return goesBack[piece] ? snapped.pieceTo[piece] : snapped.pieceFrom[piece];
        }

        private int finishOf(int piece) {
            return goesBack[piece] ? snapped.pieceFrom[piece] : snapped.pieceTo[piece];
        }

        private boolean traceRings() {
            rings = 0;
            corners = 0;
            Arrays.fill(onPath, 0, snapped.hot, 0);
            for (int piece = 0; piece < snapped.pieces; piece++) {
                // a piece that was gone is no boundary any more
                if (isBoundary[piece] && !trace(piece)) {
                    return false;
                }
            }
            return true;
        }

        private boolean trace(int first) {
            int size = 1;
            path[0] = startOf(first);
            onPath[path[0]] = 1;
            int piece = first;
            for (int step = 0; step < snapped.pieces && piece != NONE && isBoundary[piece]; step++) {
                isBoundary[piece] = false;
                int h = finishOf(piece);
                if (onPath[h] > 0) {
                    int from = onPath[h] - 1;
                    if (!takeRing(from, size)) {
                        return false;
                    }
                    for (int k = from + 1; k < size; k++) {
                        onPath[path[k]] = 0;
                    }
                    size = from + 1;
                } else if (size < path.length) {
                    path[size] = h;
                    size++;
                    onPath[h] = size;
                }
                piece = nextPiece(piece, h);
            }
            for (int k = 0; k < size; k++) {
                onPath[path[k]] = 0;
            }
            return true;
        }

        /** The first piece of the boundary to the right of the way back, gone or not. */
        private int nextPiece(int piece, int h) {
            int back = startOf(piece);
            int best = NONE;
            for (int k = begin[h]; k < begin[h + 1]; k++) {
                int other = incident[k];
                if (other != piece && (best == NONE || isFartherLeft(h, back, otherEnd(best, h), otherEnd(other, h)))) {
                    best = other;
                }
            }
            return best;
        }

        private int otherEnd(int piece, int h) {
            return snapped.pieceFrom[piece] == h ? snapped.pieceTo[piece] : snapped.pieceFrom[piece];
        }

        /** Whether, turning right from the way back, one comes to b before a. */
        private boolean isFartherLeft(int h, int back, int a, int b) {
            int turnA = turnAt(h, back, a);
            int turnB = turnAt(h, back, b);
            if (turnA != turnB) {
                // to the right of the way back, straight on, to the left of it
                return turnB < turnA;
            }
            return turnAt(h, a, b) > 0;
        }

        /** The corners of a ring, from the least one on. */
        private boolean takeRing(int from, int to) {
            int least = from;
            for (int k = from; k < to; k++) {
                least = path[k] < path[least] ? k : least;
            }
            if (rings >= RINGS) {
                return false;
            }
            ringBegin[rings] = corners;
            int length = to - from;
            for (int k = 0; k < length; k++) {
                int at = least + k < to ? least + k : least + k - length;
                int before = at > from ? path[at - 1] : path[to - 1];
                int behind = at + 1 < to ? path[at + 1] : path[from];
                if (turnAt(before, path[at], behind) != 0) {
                    if (corners >= Shape.MOST) {
                        return false;
                    }
                    corner[corners] = path[at];
                    corners++;
                }
            }
            ringArea[rings] = twiceAround(ringBegin[rings], corners);
            rings++;
            ringBegin[rings] = corners;
            // each ring tells its first corner once more
            return corners + rings <= Shape.MOST;
        }

        private long twiceAround(int from, int to) {
            long total = 0;
            for (int k = from; k < to; k++) {
                int next = k + 1 < to ? corner[k + 1] : corner[from];
                total += (long) snapped.hotX[corner[k]] * snapped.hotY[next]
                        - (long) snapped.hotX[next] * snapped.hotY[corner[k]];
            }
            return total;
        }

        private boolean isShell(int ring) {
            return ringArea[ring] > 0;
        }

        private void giveHolesToShells() {
            for (int hole = 0; hole < rings; hole++) {
                shellOf[hole] = NONE;
                for (int shell = 0; shell < rings && !isShell(hole); shell++) {
                    boolean smaller = shellOf[hole] == NONE || ringArea[shell] < ringArea[shellOf[hole]];
                    if (isShell(shell) && smaller && ringArea[shell] > -ringArea[hole] && liesIn(hole, shell)) {
                        shellOf[hole] = shell;
                    }
                }
            }
        }

        private boolean liesIn(int hole, int shell) {
            for (int k = ringBegin[hole]; k < ringBegin[hole + 1]; k++) {
                int where = whereIs(shell, snapped.hotX[corner[k]], snapped.hotY[corner[k]]);
                if (where != RIM) {
                    return where == INSIDE;
                }
            }
            return false;
        }

        private int whereIs(int ring, int x, int y) {
            boolean odd = false;
            for (int k = ringBegin[ring]; k < ringBegin[ring + 1]; k++) {
                int a = corner[k];
                int b = k + 1 < ringBegin[ring + 1] ? corner[k + 1] : corner[ringBegin[ring]];
                int ax = snapped.hotX[a];
                int ay = snapped.hotY[a];
                int bx = snapped.hotX[b];
                int by = snapped.hotY[b];
                if (isOnSegment(ax, ay, bx, by, x, y)) {
                    return RIM;
                }
                if (isCrossedFrom(ax, ay, bx, by, x, y)) {
                    odd = !odd;
                }
            }
            return odd ? INSIDE : OUTSIDE;
        }

        /** By the first corner, of equal ones by the second. */
        private void sortRings() {
            for (int ring = 0; ring < rings; ring++) {
                int first = ringBegin[ring];
                long second = first + 1 < ringBegin[ring + 1] ? corner[first + 1] : 0;
                order[ring] = ((long) corner[first] << 32 | second) << RING_BITS | ring;
            }
            sortRow(order, rings);
        }

        private int ringInOrder(int i) {
            return (int) (order[i] & RINGS - 1);
        }

        private boolean tellPolygons(Shape into) {
            into.clear();
            boolean fits = into.addShape(MULTIPOLYGON, 0);
            for (int i = 0; i < rings && fits; i++) {
                int shell = ringInOrder(i);
                if (!isShell(shell)) {
                    continue;
                }
                into.plan[1]++;
                int counter = into.plans + 1;
                fits = into.addShape(POLYGON, 1) && tellRing(into, shell);
                for (int k = 0; k < rings && fits; k++) {
                    int hole = ringInOrder(k);
                    if (shellOf[hole] == shell) {
                        into.plan[counter]++;
                        fits = tellRing(into, hole);
                    }
                }
            }
            return fits;
        }

        private boolean tellRing(Shape into, int ring) {
            int from = ringBegin[ring];
            int length = ringBegin[ring + 1] - from;
            boolean fits = into.addRing(length + 1);
            for (int k = 0; k <= length && fits; k++) {
                int h = corner[k < length ? from + k : from];
                fits = into.addPoint(snapped.hotX[h], snapped.hotY[h]);
            }
            return fits;
        }
    }

    /**
     * Relates two shapes. The places where segments meet cut them into edges; the two sides of all edges, the edges
     * and the single places that may differ from the edges around them give the matrix.
     */
    private static final class Relater {
        private static final int SEGMENTS = 256;
        private static final int PAIRS = 1024;
        private static final int PARTS = 1024;
        private static final int[] NEITHER = {-1, -1, -1, -1, -1, -1, -1, -1, 2};

        private final Segments segments = new Segments(SEGMENTS);
        private final int[] matrix = new int[9];
        private final long[] keys = new long[2 * SEGMENTS];
        private final int[] rimX = new int[2 * SEGMENTS];
        private final int[] rimY = new int[2 * SEGMENTS];
        private final int[] rimOwner = new int[2 * SEGMENTS];
        private int rims;
        /** Places on one segment, at the parts share / whole of its way. */
        private final long[] share = new long[2 * SEGMENTS];
        private final long[] whole = new long[2 * SEGMENTS];
        private int cuts;
        /** How many segments of each shape the edge lies on, and how many are crossed to the right of its left side. */
        private final int[] covers = new int[2];
        private final int[] crossed = new int[2];

        private static boolean isOfPoints(Shape shape) {
            return shape.kind() == POINT || shape.kind() == MULTIPOINT;
        }

        private static boolean isOfLines(Shape shape) {
            return shape.kind() == LINESTRING || shape.kind() == MULTILINESTRING;
        }

        private static boolean isArea(Shape shape) {
            return shape.kind() == POLYGON || shape.kind() == MULTIPOLYGON;
        }

        static boolean hasTooManyParts(Shape shape) {
            if (isOfPoints(shape)) {
                return false;
            }
            int parts = 0;
            for (int at = 0; at + 1 < shape.plans; at = shape.behind(at)) {
                parts += shape.rows(at);
            }
            return parts > PARTS;
        }

        static int whereIs(Shape shape, int x, int y) {
            if (isOfPoints(shape)) {
                return hasPoint(shape, x, y) ? INSIDE : OUTSIDE;
            }
            boolean area = isArea(shape);
            boolean ends = false;
            boolean held = false;
            boolean odd = false;
            int from = 0;
            for (int at = 0; at + 1 < shape.plans; at = shape.behind(at)) {
                for (int row = 0; row < shape.rows(at); row++) {
                    int behind = from + shape.rowLength(at, row);
                    if (from < behind && shape.isAt(from, x, y) != shape.isAt(behind - 1, x, y)) {
                        ends = !ends;
                    }
                    for (int i = from; i < behind; i++) {
                        int next = i + 1 < behind ? i + 1 : from;
                        // lines do not lead back to their first point
                        if (shape.areLike(i, next) || next == from && !area) {
                            continue;
                        }
                        if (isOnSegment(shape.x[i], shape.y[i], shape.x[next], shape.y[next], x, y)) {
                            held = true;
                        }
                        if (isCrossedFrom(shape.x[i], shape.y[i], shape.x[next], shape.y[next], x, y)) {
                            odd = !odd;
                        }
                    }
                    from = behind;
                }
            }
            if (area) {
                return held ? RIM : odd ? INSIDE : OUTSIDE;
            }
            return ends ? RIM : held ? INSIDE : OUTSIDE;
        }

        private static boolean hasPoint(Shape shape, int x, int y) {
            for (int i = 0; i < shape.points; i++) {
                if (shape.isAt(i, x, y)) {
                    return true;
                }
            }
            return false;
        }

        /** False, when there is more than the document allows. */
        boolean fillMatrix(Shape one, Shape two) {
            segments.size = 0;
            if (hasTooManyParts(one) || hasTooManyParts(two) || !collect(one, 0) || !collect(two, 1)
                    || hasTooManyMeetings()) {
                return false;
            }
            System.arraycopy(NEITHER, 0, matrix, 0, matrix.length);
            rims = 0;
            listRims(one, 0);
            listRims(two, 1);
            for (int i = 0; i < segments.size; i++) {
                addEdges(one, two, i);
            }
            addMeetings(one, two);
            for (int k = 0; k < rims; k++) {
                boolean first = rimOwner[k] == 0;
                raise(first ? RIM : whereIs(one, rimX[k], rimY[k]), first ? whereIs(two, rimX[k], rimY[k]) : RIM, 0);
            }
            addPoints(one, two);
            return true;
        }

        private void raise(int first, int second, int dimension) {
            int at = 3 * first + second;
            matrix[at] = Math.max(matrix[at], dimension);
        }

        private boolean collect(Shape shape, int owner) {
            if (isOfPoints(shape)) {
                return true;
            }
            int from = 0;
            for (int at = 0; at + 1 < shape.plans; at = shape.behind(at)) {
                for (int row = 0; row < shape.rows(at); row++) {
                    int behind = from + shape.rowLength(at, row);
                    for (int i = from; i < behind; i++) {
                        int next = i + 1 < behind ? i + 1 : from;
                        if (shape.areLike(i, next) || next == from && !isArea(shape)) {
                            continue;
                        }
                        if (!segments.add(shape, i, next, owner)) {
                            return false;
                        }
                    }
                    from = behind;
                }
            }
            return true;
        }

        private boolean hasTooManyMeetings() {
            int meetings = 0;
            for (int i = 0; i < segments.size; i++) {
                for (int j = i + 1; j < segments.size; j++) {
                    if (segments.meet(i, j) != Segments.APART) {
                        meetings++;
                    }
                }
            }
            return meetings > PAIRS;
        }

        /** A part that ends where it begins does not count; each other one has a segment at least. */
        private void listRims(Shape shape, int owner) {
            if (!isOfLines(shape)) {
                return;
            }
            int size = 0;
            int from = 0;
            for (int at = 0; at + 1 < shape.plans; at = shape.behind(at)) {
                int last = from + shape.pointsAt(at) - 1;
                if (last > from && !shape.areLike(from, last) && size + 1 < keys.length) {
                    keys[size] = keyOf(shape.x[from], shape.y[from]);
                    keys[size + 1] = keyOf(shape.x[last], shape.y[last]);
                    size += 2;
                }
                from = last + 1;
            }
            sortRow(keys, size);
            boolean odd = false;
            for (int i = 0; i < size; i++) {
                odd = !odd;
                if (i + 1 < size && keys[i + 1] == keys[i]) {
                    continue;
                }
                if (odd && rims < rimX.length) {
                    rimX[rims] = keyX(keys[i]);
                    rimY[rims] = keyY(keys[i]);
                    rimOwner[rims] = owner;
                    rims++;
                }
                odd = false;
            }
        }

        /** The edges of a segment, each with the place where it begins. */
        private void addEdges(Shape one, Shape two, int i) {
            cuts = 0;
            addCut(0, 1);
            for (int j = 0; j < segments.size; j++) {
                if (j != i) {
                    cut(i, j);
                }
            }
            for (int k = 0; k < cuts; k++) {
                if (k == 0 || signOfSum(share[k - 1], whole[k], -share[k], whole[k - 1], 0, 0) != 0) {
                    addEdge(one, two, i, k);
                }
            }
        }

        private void cut(int i, int j) {
            int common = segments.meet(i, j);
            if (common == Segments.TOUCHING) {
                cutAt(i, segments.placeX, segments.placeY);
            } else if (common == Segments.ALONG) {
                cutAt(i, segments.ax[j], segments.ay[j]);
                cutAt(i, segments.bx[j], segments.by[j]);
            } else if (common == Segments.CROSSING) {
                long otherX = wayX(j);
                long otherY = wayY(j);
                long betweenX = (long) segments.ax[j] - segments.ax[i];
                long betweenY = (long) segments.ay[j] - segments.ay[i];
                addCut(Math.abs(betweenX * otherY - betweenY * otherX),
                        Math.abs(wayX(i) * otherY - wayY(i) * otherX));
            }
        }

        private long wayX(int i) {
            return (long) segments.bx[i] - segments.ax[i];
        }

        private long wayY(int i) {
            return (long) segments.by[i] - segments.ay[i];
        }

        /** A place on the segment, told by the longer one of its ways. */
        private void cutAt(int i, int x, int y) {
            if (!segments.holds(i, x, y)) {
                return;
            }
            if (wayX(i) != 0) {
                addCut(Math.abs((long) x - segments.ax[i]), Math.abs(wayX(i)));
            } else {
                addCut(Math.abs((long) y - segments.ay[i]), Math.abs(wayY(i)));
            }
        }

        /** Cuts stay sorted; no edge begins at the end of the segment. */
        private void addCut(long itsShare, long itsWhole) {
            if (itsShare >= itsWhole || cuts >= share.length) {
                return;
            }
            int at = cuts;
            while (at > 0 && signOfSum(share[at - 1], itsWhole, -itsShare, whole[at - 1], 0, 0) > 0) {
                share[at] = share[at - 1];
                whole[at] = whole[at - 1];
                at--;
            }
            share[at] = itsShare;
            whole[at] = itsWhole;
            cuts++;
        }

        private void addEdge(Shape one, Shape two, int i, int cut) {
            Arrays.fill(covers, 0);
            Arrays.fill(crossed, 0);
            for (int k = 0; k < segments.size; k++) {
                if (segments.lowY(k) <= segments.highY(i) && segments.highY(k) >= segments.lowY(i)
                        && segments.highX(k) >= segments.lowX(i)) {
                    countSegment(i, share[cut], whole[cut], k);
                }
            }
            raise(faceOf(one, crossed[0]), faceOf(two, crossed[1]), 2);
            raise(faceOf(one, crossed[0] + covers[0]), faceOf(two, crossed[1] + covers[1]), 2);
            raise(edgeOf(one, 0), edgeOf(two, 1), 1);
        }

        private static int faceOf(Shape shape, int crossed) {
            return isArea(shape) && (crossed & 1) == 1 ? INSIDE : OUTSIDE;
        }

        private int edgeOf(Shape shape, int owner) {
            if (covers[owner] > 0) {
                return isArea(shape) ? RIM : INSIDE;
            }
            return faceOf(shape, crossed[owner]);
        }

        /**
         * How segment k lies to the edge of i that begins at a cut. The edge's left side is told by a place a bit
         * behind the cut, and by less than that to the left: each sign that is 0 for one is looked up for the next.
         */
        private void countSegment(int i, long itsShare, long itsWhole, int k) {
            int owner = segments.mark[k];
            boolean beginAbove = isAbove(segments.ay[k], i, itsShare, itsWhole);
            boolean endAbove = isAbove(segments.by[k], i, itsShare, itsWhole);
            long bend = wayX(k) * wayY(i) - wayY(k) * wayX(i);
            long apart = wayX(k) * ((long) segments.ay[i] - segments.ay[k])
                    - wayY(k) * ((long) segments.ax[i] - segments.ax[k]);
            if (bend == 0 && apart == 0) {
                covers[owner] += isCovered(i, itsShare, itsWhole, k) ? 1 : 0;
            }
            if (beginAbove == endAbove) {
                return;
            }
            int turn = signOfSum(apart, itsWhole, bend, itsShare, 0, 0);
            if (turn == 0) {
                turn = Long.compare(bend, 0);
            }
            if (turn == 0) {
                turn = Long.compare(wayX(k) * wayX(i) + wayY(k) * wayY(i), 0);
            }
            crossed[owner] += (endAbove ? turn > 0 : turn < 0) ? 1 : 0;
        }

        private boolean isAbove(int y, int i, long itsShare, long itsWhole) {
            int height = signOfSum((long) y - segments.ay[i], itsWhole, -wayY(i), itsShare, 0, 0);
            if (height == 0) {
                height = Long.compare(0, wayY(i));
            }
            // a level segment has its left side above it when it leads to the right
            return height != 0 ? height > 0 : wayX(i) < 0;
        }

        /** Whether the edge lies on a segment of the same line. */
        private boolean isCovered(int i, long itsShare, long itsWhole, int k) {
            boolean level = wayX(i) != 0;
            long way = level ? wayX(i) : wayY(i);
            long begin = level ? (long) segments.ax[k] - segments.ax[i] : (long) segments.ay[k] - segments.ay[i];
            long end = level ? (long) segments.bx[k] - segments.ax[i] : (long) segments.by[k] - segments.ay[i];
            long low = way > 0 ? Math.min(begin, end) : -Math.max(begin, end);
            long high = way > 0 ? Math.max(begin, end) : -Math.min(begin, end);
            return signOfSum(low, itsWhole, -itsShare, Math.abs(way), 0, 0) <= 0
                    && signOfSum(high, itsWhole, -itsShare, Math.abs(way), 0, 0) > 0;
        }

        /** Single places that both shapes' segments have in common; those on a rim of lines are looked at there. */
        private void addMeetings(Shape one, Shape two) {
            int first = isArea(one) ? RIM : INSIDE;
            int second = isArea(two) ? RIM : INSIDE;
            for (int i = 0; i < segments.size && matrix[3 * first + second] < 0; i++) {
                for (int j = i + 1; j < segments.size; j++) {
                    if (segments.mark[i] == segments.mark[j]) {
                        continue;
                    }
                    int common = segments.meet(i, j);
                    if (common != Segments.APART && common != Segments.ALONG && !isRimOfBoth(i, j)) {
                        raise(first, second, 0);
                    }
                }
            }
        }

        private boolean isRimOfBoth(int i, int j) {
            for (int k = 0; k < rims; k++) {
                if (segments.holds(i, rimX[k], rimY[k]) && segments.holds(j, rimX[k], rimY[k])) {
                    return true;
                }
            }
            return false;
        }

        private void addPoints(Shape one, Shape two) {
            for (int i = 0; i < one.points && isOfPoints(one); i++) {
                raise(INSIDE, whereIs(two, one.x[i], one.y[i]), 0);
            }
            for (int i = 0; i < two.points && isOfPoints(two); i++) {
                raise(whereIs(one, two.x[i], two.y[i]), INSIDE, 0);
            }
        }

        int matrixNumber() {
            int value = 0;
            for (int at = 0; at < matrix.length; at++) {
                value = 4 * value + matrix[at] + 1;
            }
            return value;
        }

        private boolean has(int first, int second) {
            return matrix[3 * first + second] >= 0;
        }

        private boolean haveCommonPlace() {
            return has(0, 0) || has(0, 1) || has(1, 0) || has(1, 1);
        }

        private boolean isFirstOutside() {
            return has(0, 2) || has(1, 2);
        }

        private boolean isSecondOutside() {
            return has(2, 0) || has(2, 1);
        }

        boolean lieSo(int what) {
            // the inside of each falls into what is inside, on the rim, and outside of the other
            int first = Math.max(matrix[0], Math.max(matrix[1], matrix[2]));
            int second = Math.max(matrix[0], Math.max(matrix[3], matrix[6]));
            switch (what) {
                case 0:
                    return first < 0 && second < 0 || has(0, 0) && !isFirstOutside() && !isSecondOutside();
                case 1:
                    return !haveCommonPlace();
                case 2:
                    return !has(0, 0) && haveCommonPlace();
                case 3:
                    return lieAcross(first, second);
                case 4:
                    return has(0, 0) && !isFirstOutside();
                case 5:
                    return has(0, 0) && !isSecondOutside();
                case 6:
                    return first == second && first >= 0 && matrix[0] == first && has(0, 2) && has(2, 0);
                case 7:
                    return haveCommonPlace() && !isFirstOutside();
                default:
                    return haveCommonPlace() && !isSecondOutside();
            }
        }

        private boolean lieAcross(int first, int second) {
            if (first < second) {
                return has(0, 0) && has(0, 2);
            }
            if (first > second) {
                return has(0, 0) && has(2, 0);
            }
            return first == 1 && matrix[0] == 0;
        }
    }

    /** What is made of points alone: hulls, triangles, simpler rows. Places are numbered by x, of equal ones by y. */
    private static final class Pointwork {
        private static final int PLACES = 1024;
        private static final int TRIANGLES = Shape.MOST / 4;
        /** More places than these have too many triangles, if not all are on one line. */
        private static final int MESHED = TRIANGLES + 2;
        private static final int NUMBER_BITS = 10;

        private final long[] keys = new long[Shape.MOST];
        private final int[] placeX = new int[PLACES];
        private final int[] placeY = new int[PLACES];
        private int places;
        /** The number of each place in the order in which they come first, and the place with each number. */
        private final int[] numberOf = new int[PLACES];
        private final int[] placeWith = new int[PLACES];
        private final int[] corner = new int[2 * PLACES + 2];
        /** Ways from place to place, whose triangles to the left are told already: a bit each. */
        private final long[] told = new long[MESHED * MESHED / 64 + 1];
        private final int[] wayFrom = new int[6 * MESHED];
        private final int[] wayTo = new int[6 * MESHED];
        private int ways;
        private final int[] round = new int[MESHED];
        private int roundSize;
        private final long[] triangle = new long[TRIANGLES];
        private int triangleCount;
        private final boolean[] stays = new boolean[Shape.MOST];
        private final int[] stack = new int[Shape.MOST];

        /** The different places of a shape's points; false, when they are too many. */
        boolean gather(Shape shape) {
            for (int i = 0; i < shape.points; i++) {
                keys[i] = keyOf(shape.x[i], shape.y[i]);
            }
            sortRow(keys, shape.points);
            int different = leaveEachOnce(keys, shape.points);
            if (different > PLACES) {
                return false;
            }
            places = different;
            for (int i = 0; i < places; i++) {
                placeX[i] = keyX(keys[i]);
                placeY[i] = keyY(keys[i]);
            }
            numberPlaces(shape);
            return true;
        }

        private void numberPlaces(Shape shape) {
            Arrays.fill(numberOf, 0, places, NONE);
            int number = 0;
            for (int i = 0; i < shape.points; i++) {
                int place = placeAt(keyOf(shape.x[i], shape.y[i]));
                if (numberOf[place] == NONE) {
                    numberOf[place] = number;
                    placeWith[number] = place;
                    number++;
                }
            }
        }

        private int placeAt(long key) {
            int low = 0;
            int high = places - 1;
            while (low < high) {
                int middle = low + (high - low) / 2;
                if (keys[middle] < key) {
                    low = middle + 1;
                } else {
                    high = middle;
                }
            }
            return low;
        }

        private int turnAt(int a, int b, int c) {
            return turnOf(placeX[a], placeY[a], placeX[b], placeY[b], placeX[c], placeY[c]);
        }

        /** The corners of the hull from the least on, left round: first along its lower side, then back. */
        private int findCorners() {
            int size = 0;
            for (int i = 0; i < places; i++) {
                size = cornersBefore(i, size, 2);
                corner[size] = i;
                size++;
            }
            int floor = size + 1;
            for (int i = places - 2; i >= 0; i--) {
                size = cornersBefore(i, size, floor);
                corner[size] = i;
                size++;
            }
            return places > 1 ? size - 1 : size;
        }

        /** Corners from which the way to a place does not turn left are none. */
        private int cornersBefore(int place, int corners, int floor) {
            int size = corners;
            while (size >= floor && turnAt(corner[size - 2], corner[size - 1], place) <= 0) {
                size--;
            }
            return size;
        }

        int span(Shape into) {
            int corners = findCorners();
            into.clear();
            if (corners == 0) {
                into.addShape(GEOMETRYCOLLECTION, 0);
            } else if (corners < 3) {
                into.addShape(corners == 1 ? POINT : LINESTRING, corners);
            } else {
                into.addShape(POLYGON, 1);
                into.addRing(corners + 1);
            }
            for (int k = 0; k < corners; k++) {
                into.addPoint(placeX[corner[k]], placeY[corner[k]]);
            }
            if (corners > 2) {
                into.addPoint(placeX[corner[0]], placeY[corner[0]]);
            }
            return corners;
        }

        /** False, when there are too many. */
        boolean triangulate() {
            triangleCount = 0;
            if (areOnOneLine()) {
                return true;
            }
            if (places > MESHED) {
                return false;
            }
            Arrays.fill(told, 0, places * places / 64 + 1, 0);
            ways = 0;
            pushWay(0, firstNeighbour());
            // each way comes once, and there are fewer than of places with places
            for (int step = 0; ways > 0 && step < MESHED * MESHED; step++) {
                ways--;
                int from = wayFrom[ways];
                int to = wayTo[ways];
                if (!isTold(from, to) && findRound(from, to) && !tellRound()) {
                    return false;
                }
            }
            sortRow(triangle, triangleCount);
            return true;
        }

        private boolean areOnOneLine() {
            for (int i = 2; i < places; i++) {
                if (turnAt(0, 1, i) != 0) {
                    return false;
                }
            }
            return true;
        }

        /** The place next to the least one with all others to the left, of several on one line the nearest. */
        private int firstNeighbour() {
            int best = 1;
            for (int i = 2; i < places; i++) {
                if (turnAt(0, best, i) < 0) {
                    best = i;
                }
            }
            return best;
        }

        private void pushWay(int from, int to) {
            if (ways < wayFrom.length && !isTold(from, to)) {
                wayFrom[ways] = from;
                wayTo[ways] = to;
                ways++;
            }
        }

        private boolean isTold(int from, int to) {
            int bit = from * places + to;
            return (told[bit >> 6] >> (bit & 63) & 1) != 0;
        }

        private void setTold(int from, int to) {
            int bit = from * places + to;
            told[bit >> 6] |= 1L << (bit & 63);
        }

        /** The places on the empty circle to the left of a way, left round; false, when nothing lies to the left. */
        private boolean findRound(int from, int to) {
            round[0] = from;
            round[1] = to;
            roundSize = 2;
            for (int i = 0; i < places; i++) {
                if (turnAt(from, to, i) <= 0) {
                    continue;
                }
                int inside = roundSize == 2 ? 1 : circleSign(from, to, round[2], i);
                if (inside > 0) {
                    roundSize = 2;
                }
                if (inside >= 0 && roundSize < MESHED) {
                    insertInRound(i);
                }
            }
            return roundSize > 2;
        }

        /** Places of one circle seen from one of them lie in their order on it. */
        private void insertInRound(int place) {
            int at = roundSize;
            while (at > 2 && turnAt(round[0], round[at - 1], place) < 0) {
                round[at] = round[at - 1];
                at--;
            }
            round[at] = place;
            roundSize++;
        }

        /** 1 when d lies within the circle through a, b, c (left round), 0 on it, -1 outside. */
        private int circleSign(int a, int b, int c, int d) {
            long ax = (long) placeX[a] - placeX[d];
            long ay = (long) placeY[a] - placeY[d];
            long bx = (long) placeX[b] - placeX[d];
            long by = (long) placeY[b] - placeY[d];
            long cx = (long) placeX[c] - placeX[d];
            long cy = (long) placeY[c] - placeY[d];
            return signOfSum(ax * ax + ay * ay, bx * cy - by * cx, bx * bx + by * by, cx * ay - cy * ax,
                    cx * cx + cy * cy, ax * by - ay * bx);
        }

        /** The triangles of the places on one circle, from the least on; false, when they are too many. */
        private boolean tellRound() {
            int least = 0;
            for (int k = 0; k < roundSize; k++) {
                least = round[k] < round[least] ? k : least;
                int from = round[k];
                int to = round[k + 1 < roundSize ? k + 1 : 0];
                setTold(from, to);
                pushWay(to, from);
            }
            for (int k = 1; k + 1 < roundSize; k++) {
                if (triangleCount >= TRIANGLES) {
                    return false;
                }
                triangle[triangleCount] = triangleKey(numberOf[round[least]], numberOf[round[(least + k) % roundSize]],
                        numberOf[round[(least + k + 1) % roundSize]]);
                triangleCount++;
            }
            return true;
        }

        /** The lowest number first, then left round. */
        private static long triangleKey(long a, long b, long c) {
            if (b < a && b < c) {
                return triangleKeyFrom(b, c, a);
            }
            return c < a && c < b ? triangleKeyFrom(c, a, b) : triangleKeyFrom(a, b, c);
        }

        private static long triangleKeyFrom(long first, long second, long third) {
            return (first << NUMBER_BITS | second) << NUMBER_BITS | third;
        }

        int tellTriangles(Shape into) {
            into.clear();
            into.addShape(MULTIPOLYGON, triangleCount);
            for (int i = 0; i < triangleCount; i++) {
                into.addShape(POLYGON, 1);
                into.addRing(4);
                for (int k = 2; k >= -1; k--) {
                    // the first one comes once more
                    int shift = NUMBER_BITS * (k < 0 ? 2 : k);
                    int place = placeWith[(int) (triangle[i] >> shift) & PLACES - 1];
                    into.addPoint(placeX[place], placeY[place]);
                }
            }
            return triangleCount;
        }

        /** A shape made simpler by a distance: how many points are left out. */
        int thin(Shape shape, Shape into, int distance) {
            into.clear();
            int from = 0;
            for (int at = 0; at + 1 < shape.plans; at = shape.behind(at)) {
                into.addShape(shape.plan[at], shape.plan[at + 1]);
                for (int row = 0; row < shape.rows(at); row++) {
                    int length = shape.rowLength(at, row);
                    int left = thinRow(shape, into, from, length, distance);
                    if (shape.plan[at] == POLYGON) {
                        into.addRing(left);
                    } else {
                        into.plan[into.plans - 1] = left;
                    }
                    from += length;
                }
            }
            return shape.points - into.points;
        }

        private int thinRow(Shape shape, Shape into, int from, int length, int distance) {
            int before = into.points;
            markStaying(shape, from, from + length - 1, distance);
            for (int i = from; i < from + length; i++) {
                if (stays[i]) {
                    into.addPoint(shape.x[i], shape.y[i]);
                }
            }
            return into.points - before;
        }

        /** The stack holds those that stay behind the present one, the nearest on top; each point goes on it once. */
        private void markStaying(Shape shape, int first, int last, int distance) {
            if (last < first) {
                return;
            }
            for (int i = first; i <= last; i++) {
                stays[i] = false;
            }
            stays[first] = true;
            stays[last] = true;
            int present = first;
            int size = 1;
            stack[0] = last;
            for (int step = 0; size > 0 && size < stack.length && step < 2 * stack.length; step++) {
                int next = stack[size - 1];
                int far = farthest(shape, present, next, distance);
                if (far == NONE) {
                    present = next;
                    size--;
                } else {
                    stays[far] = true;
                    stack[size] = far;
                    size++;
                }
            }
        }

        /** The first of the points farthest from a segment, or NONE when none is farther than the distance. */
        private static int farthest(Shape shape, int a, int b, int distance) {
            long wayX = (long) shape.x[b] - shape.x[a];
            long wayY = (long) shape.y[b] - shape.y[a];
            long way = wayX * wayX + wayY * wayY;
            int best = NONE;
            // beside the segment the farthest is told by its distance times the way, else by its square
            boolean beside = false;
            long size = (long) distance * distance;
            for (int i = a + 1; i < b; i++) {
                long x = (long) shape.x[i] - shape.x[a];
                long y = (long) shape.y[i] - shape.y[a];
                long along = x * wayX + y * wayY;
                boolean itsBeside = along > 0 && along < way;
                long itsSize = itsBeside ? Math.abs(wayX * y - wayY * x)
                        : along <= 0 ? x * x + y * y : squareTo(shape, i, b);
                if (isFarther(itsBeside, itsSize, beside, size, way)) {
                    best = i;
                    beside = itsBeside;
                    size = itsSize;
                }
            }
            return best;
        }

        private static long squareTo(Shape shape, int i, int j) {
            long x = (long) shape.x[i] - shape.x[j];
            long y = (long) shape.y[i] - shape.y[j];
            return x * x + y * y;
        }

        private static boolean isFarther(boolean itsBeside, long itsSize, boolean beside, long size, long way) {
            if (itsBeside == beside) {
                return itsSize > size;
            }
            return itsBeside ? signOfSum(itsSize, itsSize, -size, way, 0, 0) > 0
                    : signOfSum(itsSize, way, -size, size, 0, 0) > 0;
        }
    }

    /** Exact signs: numbers lie in registers, as many units of 2 to the power -1074, in limbs of 32 bits. */
    private static final class Signs {
        private static final int LIMBS = 280;
        private static final int REGISTERS = 16;
        private static final long LIMB = 0xFFFFFFFFL;
        private static final long FRACTION = (1L << 52) - 1;

        final long[] x = new long[SIGN_POINTS];
        final long[] y = new long[SIGN_POINTS];
        private final int[][] limbs = new int[REGISTERS][LIMBS];
        private final int[] used = new int[REGISTERS];
        private final int[] sign = new int[REGISTERS];

        int sideSign(int i, int j, int k) {
            difference(2, x[j], x[i]);
            difference(3, y[k], y[i]);
            difference(4, y[j], y[i]);
            difference(5, x[k], x[i]);
            multiply(6, 2, 3);
            multiply(7, 4, 5);
            addSigned(8, 6, 7, -1);
            return sign[8];
        }

        /** Each row's third number times the turn of the two others' first ones. */
        int circleSign(int i, int j, int k, int l) {
            difference(2, x[i], x[l]);
            difference(3, y[i], y[l]);
            difference(4, x[j], x[l]);
            difference(5, y[j], y[l]);
            difference(6, x[k], x[l]);
            difference(7, y[k], y[l]);
            putTerm(8, 2, 4, 6);
            putTerm(9, 4, 6, 2);
            putTerm(10, 6, 2, 4);
            addSigned(11, 8, 9, 1);
            addSigned(12, 11, 10, 1);
            return sign[12];
        }

        /** The square of the way one times the turn of the ways two and three; each way has two registers. */
        private void putTerm(int to, int one, int two, int three) {
            multiply(13, one, one);
            multiply(14, one + 1, one + 1);
            addSigned(15, 13, 14, 1);
            multiply(13, two, three + 1);
            multiply(14, two + 1, three);
            addSigned(0, 13, 14, -1);
            multiply(to, 15, 0);
        }

        private void difference(int to, long bits, long less) {
            load(0, bits);
            load(1, less);
            addSigned(to, 0, 1, -1);
        }

        private void load(int to, long bits) {
            int power = (int) (bits >>> 52) & 2047;
            long whole = power == 0 ? bits & FRACTION : (bits & FRACTION) + FRACTION + 1;
            int shift = Math.max(power - 1, 0);
            int first = shift >> 5;
            int left = shift & 31;
            Arrays.fill(limbs[to], 0, first + 3, 0);
            long low = (whole & LIMB) << left;
            long high = (whole >>> 32 << left) + (low >>> 32);
            limbs[to][first] = (int) low;
            limbs[to][first + 1] = (int) high;
            limbs[to][first + 2] = (int) (high >>> 32);
            used[to] = first + 3;
            sign[to] = bits < 0 ? -1 : 1;
            trim(to);
        }

        /** Leaves no limb of 0 at the top; a number without limbs has the sign 0. */
        private void trim(int register) {
            while (used[register] > 0 && limbs[register][used[register] - 1] == 0) {
                used[register]--;
            }
            if (used[register] == 0) {
                sign[register] = 0;
            }
        }

        private long limbAt(int register, int i) {
            return i < used[register] ? limbs[register][i] & LIMB : 0;
        }

        private void multiply(int to, int one, int two) {
            int size = Math.min(used[one] + used[two], LIMBS);
            Arrays.fill(limbs[to], 0, size, 0);
            for (int i = 0; i < used[one]; i++) {
                long factor = limbAt(one, i);
                // most numbers have few limbs that are not 0
                if (factor == 0) {
                    continue;
                }
                long carry = 0;
                for (int k = 0; k <= used[two] && i + k < size; k++) {
                    long sum = factor * limbAt(two, k) + (limbs[to][i + k] & LIMB) + carry;
                    limbs[to][i + k] = (int) sum;
                    carry = sum >>> 32;
                }
            }
            used[to] = size;
            sign[to] = sign[one] * sign[two];
            trim(to);
        }

        /** One number and the other one times 1 or -1. */
        private void addSigned(int to, int one, int two, int factor) {
            int otherSign = sign[two] * factor;
            if (sign[one] * otherSign >= 0) {
                int sum = sign[one] != 0 ? sign[one] : otherSign;
                addLimbs(to, one, two, 1);
                sign[to] = sum;
            } else if (compareLimbs(one, two) >= 0) {
                sign[to] = sign[one];
                addLimbs(to, one, two, -1);
            } else {
                sign[to] = otherSign;
                addLimbs(to, two, one, -1);
            }
            trim(to);
        }

        private int compareLimbs(int one, int two) {
            for (int i = Math.max(used[one], used[two]) - 1; i >= 0; i--) {
                if (limbAt(one, i) != limbAt(two, i)) {
                    return limbAt(one, i) > limbAt(two, i) ? 1 : -1;
                }
            }
            return 0;
        }

        /** The limbs of one more or less those of two, which are no more then. */
        private void addLimbs(int to, int one, int two, int factor) {
            int size = Math.min(Math.max(used[one], used[two]) + 1, LIMBS);
            long carry = 0;
            for (int i = 0; i < size; i++) {
                long sum = limbAt(one, i) + factor * limbAt(two, i) + carry;
                limbs[to][i] = (int) sum;
                carry = sum >> 32;
            }
            used[to] = size;
        }
    }
}
