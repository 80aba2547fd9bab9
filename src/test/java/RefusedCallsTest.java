/**
 * What a call that throws changes, and which of several exceptions is thrown: each call of the face with each thing
 * that can be wrong with it, alone and with others, in an object that has something everywhere.
 */
public final class RefusedCallsTest {
    private static final int[] NO_SLOTS = {-1, 32, 33, Integer.MIN_VALUE, Integer.MAX_VALUE};
    private static final int[] NO_PLACES = {500000001, -500000001, Integer.MIN_VALUE, Integer.MAX_VALUE};
    private static final int NONE = 30;
    private static final int SQUARE = 0;
    private static final int LINE = 1;
    private static final int EMPTY = 2;
    private static final int COLLECTION = 3;
    private static final int OPEN = 4;
    private static final int AFAR = 5;
    private static final int MANY_PLACES = 6;
    private static final int MANY_LINES = 7;
    private static final int MANY_RINGS = 8;
    private static final int MANY_SIDES = 9;
    private static final int KEPT = 10;

    private static ShapeWorkshop shop;
    private static String state;

    public static void main(String[] args) {
        fill();
        tapeAndResult();
        slots();
        judging();
        overlays();
        relations();
        places();
        pointwork();
        boxes();
        signs();
        Bench.due("the tape is what it was", shop.readWords(31) + " " + Bench.words(shop, 31), "1 POINT (1 2)");
        reading();
        Bench.close("RefusedCallsTest");
    }

    private static void fill() {
        StringBuilder row = new StringBuilder("LINESTRING (0 0");
        StringBuilder lines = new StringBuilder("MULTILINESTRING ((0 0,1 0)");
        StringBuilder saw = new StringBuilder("POLYGON ((0 -9");
        for (int i = 1; i < 1025; i++) {
            row.append(",").append(i).append(" 0");
            lines.append(i < 129 ? ",(" + 3 * i + " 0," + (3 * i + 1) + " 0)" : "");
            saw.append(",").append(i).append(i % 2 == 0 ? " 0" : " 1");
        }
        shop = Bench.with("POLYGON ((0 0, 10 0, 10 10, 0 10, 0 0))", "LINESTRING (1 2, 3 4)", "POINT EMPTY",
                "GEOMETRYCOLLECTION (POINT (1 1))", "POLYGON ((0 0, 10 0, 10 10))", "POLYGON ((0 0, 600000000 0, 5 5, "
                + "0 0))", row + ")", lines + ")", "POLYGON ((0 0)" + ",(0 0)".repeat(1024) + ")", saw + ",0 -9))",
                "POINT (7 7)", "POLYGON ((0 0, 4 4, 4 0, 0 4, 0 0))");
        shop.judge(11);
        shop.find(0, 0, 0, 5, 5);
        shop.writeBytes(LINE, 1);
        for (int i = 0; i < 32; i++) {
            shop.point(i, Double.doubleToRawLongBits(i), Double.doubleToRawLongBits(i * i));
        }
        Bench.due("the latest fault", Bench.read(shop, 29, "POINT (1"), "3@8");
        Bench.feedBytes(shop, Bench.latin("POINT (1 2)"));
        state = told();
    }

    /** All that can be asked for; the tape's bytes are read in the end. */
    private static String told() {
        StringBuilder text = new StringBuilder();
        for (int what = 2; what < 6; what++) {
            text.append(shop.count(0, what)).append(' ');
        }
        for (int k = 0; k < shop.count(0, 5); k++) {
            text.append(shop.found(k)).append(' ');
        }
        for (int what = 0; what < 7; what++) {
            text.append(shop.place(what)).append(' ');
        }
        text.append(shop.fault(0)).append('@').append(shop.fault(1));
        for (int i = 0; i < shop.count(0, 3); i++) {
            text.append(' ').append(shop.byteAt(i));
        }
        for (int slot = 0; slot < 32; slot++) {
            text.append('/').append(shop.count(slot, 0)).append(' ').append(shop.count(slot, 1));
            for (int i = 0; i < shop.count(slot, 0); i++) {
                text.append(' ').append(shop.plan(slot, i));
            }
            for (int i = 0; i < 2 * shop.count(slot, 1); i++) {
                text.append(' ').append(shop.ordinate(slot, i / 2, i % 2));
            }
        }
        for (int i = 0; i < 32; i++) {
            text.append(shop.side(i, (i + 1) % 32, (i + 2) % 32)).append(shop.circle(i, (i + 1) % 32, (i + 2) % 32,
                    (i + 3) % 32));
        }
        return text.toString();
    }

    private static void refused(String name, Bench.Call call, String want) {
        Bench.outcomeDue(name, call, want);
        Bench.holds(name + " changes nothing", told().equals(state));
    }

    private static long of(boolean is) {
        return is ? 1 : 0;
    }

    private static void tapeAndResult() {
        for (int n : new int[] {-1, 21, 22, Integer.MIN_VALUE, Integer.MAX_VALUE}) {
            refused("end " + n, () -> shop.end(n), Bench.ARGUMENT);
        }
        for (int n = 0; n <= 20; n++) {
            int last = n;
            refused("end " + n + " of eleven bytes", () -> shop.end(last), Bench.STATE);
        }
        int size = shop.count(0, 3);
        for (int i : new int[] {-1, size, size + 1, 65536, 80000, Integer.MIN_VALUE, Integer.MAX_VALUE}) {
            refused("byte " + i, () -> shop.byteAt(i), Bench.INDEX);
        }
        for (int what : new int[] {-1, 2, 3, Integer.MIN_VALUE, Integer.MAX_VALUE}) {
            refused("fault " + what, () -> shop.fault(what), Bench.INDEX);
        }
        for (int slot : NO_SLOTS) {
            refused("words of " + slot, () -> shop.writeWords(slot), Bench.INDEX);
            refused("bytes of " + slot, () -> shop.writeBytes(slot, 0), Bench.INDEX);
            refused("bytes of " + slot + " in order 2", () -> shop.writeBytes(slot, 2), Bench.INDEX);
        }
        refused("words of none", () -> shop.writeWords(NONE), Bench.STATE);
        for (int order : new int[] {-1, 2, 255, 256, Integer.MIN_VALUE, Integer.MAX_VALUE}) {
            refused("bytes in order " + order, () -> shop.writeBytes(LINE, order), Bench.ARGUMENT);
            refused("bytes of none in order " + order, () -> shop.writeBytes(NONE, order), Bench.STATE);
        }
        refused("bytes of none", () -> shop.writeBytes(NONE, 0), Bench.STATE);
    }

    private static void slots() {
        for (int slot : NO_SLOTS) {
            refused("copy from " + slot, () -> shop.copy(slot, KEPT), Bench.INDEX);
            refused("copy to " + slot, () -> shop.copy(LINE, slot), Bench.INDEX);
            refused("copy none to " + slot, () -> shop.copy(NONE, slot), Bench.INDEX);
            refused("drop " + slot, () -> of(shop.drop(slot)), Bench.INDEX);
            refused("same " + slot, () -> of(shop.same(slot, LINE)), Bench.INDEX);
            refused("same with " + slot, () -> of(shop.same(LINE, slot)), Bench.INDEX);
            refused("area of " + slot, () -> shop.area(slot), Bench.INDEX);
            refused("bounds of " + slot, () -> shop.bounds(slot, 0), Bench.INDEX);
            refused("bounds 4 of " + slot, () -> shop.bounds(slot, 4), Bench.INDEX);
            refused("plan of " + slot, () -> shop.plan(slot, 0), Bench.INDEX);
            refused("ordinate of " + slot, () -> shop.ordinate(slot, 0, 0), Bench.INDEX);
            for (int what = -1; what < 7; what++) {
                int w = what;
                refused("count " + what + " of " + slot, () -> shop.count(slot, w), Bench.INDEX);
            }
        }
        refused("copy none", () -> shop.copy(NONE, KEPT), Bench.STATE);
        refused("area of none", () -> shop.area(NONE), Bench.STATE);
        for (int what : new int[] {-1, 4, 5, Integer.MIN_VALUE, Integer.MAX_VALUE}) {
            refused("bounds " + what, () -> shop.bounds(LINE, what), Bench.ARGUMENT);
            refused("bounds " + what + " of none", () -> shop.bounds(NONE, what), Bench.STATE);
            refused("bounds " + what + " of no points", () -> shop.bounds(EMPTY, what), Bench.ARGUMENT);
        }
        for (int what = 0; what < 4; what++) {
            int w = what;
            refused("bounds of no points", () -> shop.bounds(EMPTY, w), Bench.ARGUMENT);
            refused("bounds of none", () -> shop.bounds(NONE, w), Bench.STATE);
        }
        for (int i : new int[] {-1, 2, 3, 2047, 2048, Integer.MIN_VALUE, Integer.MAX_VALUE}) {
            refused("plan " + i, () -> shop.plan(LINE, i), Bench.INDEX);
            refused("plan " + i + " of none", () -> shop.plan(NONE, i), Bench.INDEX);
            refused("x of point " + i, () -> shop.ordinate(LINE, i, 0), Bench.INDEX);
            refused("y of point " + i, () -> shop.ordinate(LINE, i, 1), Bench.INDEX);
        }
        for (int what : new int[] {-1, 2, 3, Integer.MIN_VALUE, Integer.MAX_VALUE}) {
            refused("ordinate " + what, () -> shop.ordinate(LINE, 0, what), Bench.INDEX);
        }
        refused("x of no points", () -> shop.ordinate(EMPTY, 0, 0), Bench.INDEX);
        refused("x of none", () -> shop.ordinate(NONE, 0, 0), Bench.INDEX);
        refused("plan 0 of none", () -> shop.plan(NONE, 0), Bench.INDEX);
        for (int what : new int[] {-1, 6, 7, Integer.MIN_VALUE, Integer.MAX_VALUE}) {
            refused("count " + what, () -> shop.count(LINE, what), Bench.INDEX);
            refused("count " + what + " of none", () -> shop.count(NONE, what), Bench.INDEX);
        }
        // these ask for no shape
        Bench.due("same as none", of(shop.same(LINE, NONE)) + of(shop.same(NONE, LINE)), 0);
        Bench.due("none and none", of(shop.same(NONE, 28)), 1);
        Bench.due("drop none", of(shop.drop(NONE)), 0);
        Bench.due("count of none", shop.count(NONE, 0) + shop.count(NONE, 1), 0);
    }

    private static void judging() {
        for (int slot : NO_SLOTS) {
            refused("judge " + slot, () -> shop.judge(slot), Bench.INDEX);
        }
        refused("judge none", () -> shop.judge(NONE), Bench.STATE);
        for (int what : new int[] {-1, 7, 8, Integer.MIN_VALUE, Integer.MAX_VALUE}) {
            refused("place " + what, () -> shop.place(what), Bench.INDEX);
        }
    }

    private static void overlays() {
        for (int slot : NO_SLOTS) {
            refused("overlay of " + slot, () -> shop.overlay(9, slot, NONE, KEPT), Bench.INDEX);
            refused("overlay with " + slot, () -> shop.overlay(9, NONE, slot, KEPT), Bench.INDEX);
            refused("overlay to " + slot, () -> shop.overlay(9, NONE, NONE, slot), Bench.INDEX);
            refused("overlay to " + slot, () -> shop.overlay(0, MANY_SIDES, MANY_SIDES, slot), Bench.INDEX);
        }
        for (int what : new int[] {-1, 0, 5}) {
            refused("overlay " + what + " of none", () -> shop.overlay(what, NONE, LINE, KEPT), Bench.STATE);
            refused("overlay " + what + " with none", () -> shop.overlay(what, LINE, NONE, KEPT), Bench.STATE);
            refused("overlay " + what + " of none", () -> shop.overlay(what, NONE, NONE, NONE), Bench.STATE);
        }
        for (int what : new int[] {-1, 5, 6, Integer.MIN_VALUE, Integer.MAX_VALUE}) {
            refused("overlay " + what, () -> shop.overlay(what, SQUARE, SQUARE, KEPT), Bench.ARGUMENT);
            refused("overlay " + what + " of too much", () -> shop.overlay(what, MANY_SIDES, MANY_SIDES, KEPT),
                    Bench.ARGUMENT);
        }
        for (int wrong : new int[] {LINE, EMPTY, COLLECTION, OPEN, AFAR, MANY_PLACES, MANY_LINES, KEPT}) {
            refused("overlay of " + wrong, () -> shop.overlay(1, wrong, SQUARE, KEPT), Bench.ARGUMENT);
            refused("overlay with " + wrong, () -> shop.overlay(1, SQUARE, wrong, KEPT), Bench.ARGUMENT);
            refused("overlay of too much with " + wrong, () -> shop.overlay(1, MANY_SIDES, wrong, KEPT),
                    Bench.ARGUMENT);
            refused("onto itself", () -> shop.overlay(1, wrong, wrong, wrong), Bench.ARGUMENT);
        }
        for (int what = 0; what < 5; what++) {
            int w = what;
            refused("overlay of too much", () -> shop.overlay(w, MANY_SIDES, MANY_SIDES, KEPT), Bench.TOO_MUCH);
            refused("onto itself", () -> shop.overlay(w, MANY_SIDES, MANY_SIDES, MANY_SIDES), Bench.TOO_MUCH);
            refused("onto none", () -> shop.overlay(w, MANY_SIDES, MANY_SIDES, NONE), Bench.TOO_MUCH);
        }
    }

    private static void relations() {
        for (int slot : NO_SLOTS) {
            refused("relate " + slot, () -> shop.relate(slot, NONE), Bench.INDEX);
            refused("relate with " + slot, () -> shop.relate(NONE, slot), Bench.INDEX);
            refused("is 9 of " + slot, () -> of(shop.is(9, slot, NONE)), Bench.INDEX);
            refused("is 9 with " + slot, () -> of(shop.is(9, NONE, slot)), Bench.INDEX);
        }
        refused("relate none", () -> shop.relate(NONE, COLLECTION), Bench.STATE);
        refused("relate with none", () -> shop.relate(COLLECTION, NONE), Bench.STATE);
        for (int what : new int[] {-1, 0, 9, Integer.MIN_VALUE, Integer.MAX_VALUE}) {
            refused("is " + what + " of none", () -> of(shop.is(what, NONE, COLLECTION)), Bench.STATE);
            refused("is " + what + " with none", () -> of(shop.is(what, COLLECTION, NONE)), Bench.STATE);
            if (what != 0) {
                refused("is " + what, () -> of(shop.is(what, LINE, LINE)), Bench.ARGUMENT);
                refused("is " + what + " of too much", () -> of(shop.is(what, MANY_LINES, MANY_LINES)),
                        Bench.ARGUMENT);
            }
        }
        for (int wrong : new int[] {COLLECTION, AFAR}) {
            refused("relate " + wrong, () -> shop.relate(wrong, LINE), Bench.ARGUMENT);
            refused("relate with " + wrong, () -> shop.relate(LINE, wrong), Bench.ARGUMENT);
            refused("relate too much with " + wrong, () -> shop.relate(MANY_RINGS, wrong), Bench.ARGUMENT);
            refused("relate " + wrong + " with too much", () -> shop.relate(wrong, MANY_RINGS), Bench.ARGUMENT);
            for (int what = 0; what < 9; what++) {
                int w = what;
                refused("is " + what + " of " + wrong, () -> of(shop.is(w, wrong, LINE)), Bench.ARGUMENT);
                refused("is " + what + " with " + wrong, () -> of(shop.is(w, LINE, wrong)), Bench.ARGUMENT);
            }
        }
        refused("1025 parts", () -> shop.relate(MANY_RINGS, EMPTY), Bench.TOO_MUCH);
        refused("1025 parts", () -> shop.relate(EMPTY, MANY_RINGS), Bench.TOO_MUCH);
        refused("258 segments", () -> shop.relate(MANY_LINES, MANY_LINES), Bench.TOO_MUCH);
        refused("1024 segments", () -> shop.relate(MANY_PLACES, EMPTY), Bench.TOO_MUCH);
        for (int what = 0; what < 9; what++) {
            int w = what;
            refused("is of 1025 parts", () -> of(shop.is(w, MANY_RINGS, EMPTY)), Bench.TOO_MUCH);
            refused("is of 258 segments", () -> of(shop.is(w, MANY_LINES, MANY_LINES)), Bench.TOO_MUCH);
        }
    }

    private static void places() {
        for (int slot : NO_SLOTS) {
            refused("locate in " + slot, () -> shop.locate(slot, 0, 0), Bench.INDEX);
            refused("locate in " + slot, () -> shop.locate(slot, 500000001, 0), Bench.INDEX);
        }
        for (int far : NO_PLACES) {
            refused("locate in none", () -> shop.locate(NONE, far, 0), Bench.STATE);
            for (int slot : new int[] {SQUARE, LINE, EMPTY, COLLECTION, AFAR, MANY_RINGS}) {
                refused("locate x in " + slot, () -> shop.locate(slot, far, 0), Bench.ARGUMENT);
                refused("locate y in " + slot, () -> shop.locate(slot, 0, far), Bench.ARGUMENT);
            }
        }
        refused("locate in none", () -> shop.locate(NONE, 0, 0), Bench.STATE);
        refused("locate in a collection", () -> shop.locate(COLLECTION, 0, 0), Bench.ARGUMENT);
        refused("locate in what is too far", () -> shop.locate(AFAR, 0, 0), Bench.ARGUMENT);
        refused("locate in 1025 parts", () -> shop.locate(MANY_RINGS, 0, 0), Bench.TOO_MUCH);
    }

    private static void pointwork() {
        for (int slot : NO_SLOTS) {
            refused("hull of " + slot, () -> shop.hull(slot, KEPT), Bench.INDEX);
            refused("hull to " + slot, () -> shop.hull(NONE, slot), Bench.INDEX);
            refused("hull to " + slot, () -> shop.hull(MANY_PLACES, slot), Bench.INDEX);
            refused("triangles of " + slot, () -> shop.triangles(slot, KEPT), Bench.INDEX);
            refused("triangles to " + slot, () -> shop.triangles(NONE, slot), Bench.INDEX);
            refused("triangles to " + slot, () -> shop.triangles(MANY_PLACES, slot), Bench.INDEX);
            refused("simplify " + slot, () -> shop.simplify(slot, KEPT, -1), Bench.INDEX);
            refused("simplify to " + slot, () -> shop.simplify(NONE, slot, -1), Bench.INDEX);
        }
        refused("hull of none", () -> shop.hull(NONE, KEPT), Bench.STATE);
        refused("hull of none", () -> shop.hull(NONE, NONE), Bench.STATE);
        refused("triangles of none", () -> shop.triangles(NONE, KEPT), Bench.STATE);
        for (int to : new int[] {KEPT, MANY_PLACES, NONE}) {
            refused("hull of 1025 places", () -> shop.hull(MANY_PLACES, to), Bench.TOO_MUCH);
            refused("triangles of 1025 places", () -> shop.triangles(MANY_PLACES, to), Bench.TOO_MUCH);
            refused("2045 triangles", () -> shop.triangles(MANY_SIDES, to), Bench.TOO_MUCH);
        }
        for (int distance : new int[] {-1, 1000000001, Integer.MIN_VALUE, Integer.MAX_VALUE}) {
            refused("simplify by " + distance, () -> shop.simplify(LINE, KEPT, distance), Bench.ARGUMENT);
            refused("simplify none by " + distance, () -> shop.simplify(NONE, KEPT, distance), Bench.STATE);
        }
        refused("simplify none", () -> shop.simplify(NONE, KEPT, 0), Bench.STATE);
    }

    private static void boxes() {
        for (int what : new int[] {-1, 3, 4, Integer.MIN_VALUE, Integer.MAX_VALUE}) {
            refused("find " + what, () -> shop.find(what, 0, 0, 100, 100), Bench.ARGUMENT);
        }
        int[][] windows = {{1, 0, 0, 0}, {0, 1, 0, 0}, {-1000000001, 0, 0, 0}, {0, -1000000001, 0, 0},
            {0, 0, 1000000001, 0}, {0, 0, 0, 1000000001}, {Integer.MIN_VALUE, 0, 0, 0}, {0, 0, 0, Integer.MAX_VALUE},
            {Integer.MAX_VALUE, 0, Integer.MIN_VALUE, 0}};
        for (int[] w : windows) {
            refused("window", () -> shop.find(0, w[0], w[1], w[2], w[3]), Bench.ARGUMENT);
        }
        for (int n : new int[] {0, -1, 33, Integer.MIN_VALUE, Integer.MAX_VALUE}) {
            refused("nearest " + n, () -> shop.nearest(0, 0, n), Bench.ARGUMENT);
        }
        for (int far : new int[] {1000000001, -1000000001, Integer.MIN_VALUE, Integer.MAX_VALUE}) {
            refused("nearest to x", () -> shop.nearest(far, 0, 5), Bench.ARGUMENT);
            refused("nearest to y", () -> shop.nearest(0, far, 5), Bench.ARGUMENT);
        }
        int found = shop.count(0, 5);
        for (int k : new int[] {-1, found, found + 1, 31, 32, Integer.MIN_VALUE, Integer.MAX_VALUE}) {
            refused("found " + k, () -> shop.found(k), Bench.INDEX);
        }
    }

    private static void signs() {
        long infinite = 0x7FF0000000000000L;
        for (int i : NO_SLOTS) {
            refused("point " + i, () -> put(i, 0, 0), Bench.INDEX);
            refused("point " + i + " of no number", () -> put(i, infinite, infinite), Bench.INDEX);
            refused("side i", () -> shop.side(i, 0, 0), Bench.INDEX);
            refused("side j", () -> shop.side(0, i, 0), Bench.INDEX);
            refused("side k", () -> shop.side(0, 0, i), Bench.INDEX);
            refused("circle i", () -> shop.circle(i, 0, 0, 0), Bench.INDEX);
            refused("circle j", () -> shop.circle(0, i, 0, 0), Bench.INDEX);
            refused("circle k", () -> shop.circle(0, 0, i, 0), Bench.INDEX);
            refused("circle l", () -> shop.circle(0, 0, 0, i), Bench.INDEX);
        }
        long[] none = {infinite, infinite | Long.MIN_VALUE, infinite | 1, -1L, Long.MAX_VALUE};
        for (long wrong : none) {
            for (int i = 0; i < 32; i += 31) {
                int at = i;
                refused("x is no number", () -> put(at, wrong, 0x4059000000000000L), Bench.ARGUMENT);
                refused("y is no number", () -> put(at, 0x4059000000000000L, wrong), Bench.ARGUMENT);
                refused("neither is a number", () -> put(at, wrong, wrong), Bench.ARGUMENT);
            }
        }
    }

    private static long put(int i, long x, long y) {
        shop.point(i, x, y);
        return 0;
    }

    /** What has read is not as before: the tape is empty, the fault told, the slot bare; all else stays. */
    private static void reading() {
        ShapeWorkshop few = Bench.with("POINT (1 2)", "LINESTRING (3 4, 5 6)", "POINT (7 8)", "POINT (9 9)");
        few.writeWords(1);
        few.find(1, 0, 0, 9, 9);
        for (int round = 0; round < 2; round++) {
            boolean words = round == 0;
            for (int slot : NO_SLOTS) {
                few.feed(0x504F494E, 0x5420454D, 0x50545920, 0x20202020, 0x20202020);
                Bench.outcomeDue("no slot " + slot, () -> words ? few.readWords(slot) : few.readBytes(slot),
                        Bench.INDEX);
                Bench.due("the tape is empty", few.count(0, 2), 0);
                Bench.due("the fault stays", few.fault(0) + "@" + few.fault(1), words ? "0@0" : "3@0");
                Bench.due("shapes stay", few.count(0, 4), words ? 4 : 3);
            }
            Bench.outcomeDue("an empty tape", () -> words ? few.readWords(2) : few.readBytes(3), Bench.ARGUMENT);
            Bench.due("the end is told", few.fault(0) + "@" + few.fault(1), "3@0");
            Bench.due("the slot is bare", few.count(words ? 2 : 3, 0) + few.count(words ? 2 : 3, 1), 0);
            Bench.due("one is gone", few.count(0, 4), words ? 3 : 2);
            Bench.due("the result stays", few.count(0, 3), 21);
            Bench.due("found stays", few.count(0, 5) + " " + few.found(0) + " " + few.found(3), "4 0 3");
        }
        Bench.due("others stay", Bench.words(few, 1), "LINESTRING (3 4, 5 6)");
        Bench.due("good again", Bench.read(few, 2, "POINT (5 5)"), "1");
        Bench.due("no fault any more", few.fault(0) + "@" + few.fault(1), "0@0");
        faultsGo(few);
        few.writeWords(1);
        few.feed(0, 0, 0, 0, 0);
        few.again();
        Bench.due("again instead of the tape", few.count(0, 2), 21);
        few.feed(0, 0, 0, 0, 0);
        Bench.outcomeDue("something behind", () -> few.readWords(31), Bench.ARGUMENT);
        Bench.due("behind", few.fault(0) + "@" + few.fault(1), "8@21");
        Bench.due("none came of it", few.count(31, 0), 0);
    }

    /** A fault in words or bytes is told until something is read, words or bytes. */
    private static void faultsGo(ShapeWorkshop few) {
        for (int round = 0; round < 4; round++) {
            boolean wordsFirst = round % 2 == 0;
            few.feed(wordsFirst ? 0x20200000 : 0, 0, 0, 0, 0);
            Bench.outcomeDue("a fault", () -> wordsFirst ? few.readWords(30) : few.readBytes(30), Bench.ARGUMENT);
            Bench.due("a fault", few.fault(0) + "@" + few.fault(1), wordsFirst ? "1@2" : "2@1");
            boolean words = round < 2;
            if (words) {
                few.writeWords(1);
            } else {
                few.writeBytes(1, round % 2);
            }
            few.again();
            Bench.due("it stays till something is read", few.fault(0) + "@" + few.fault(1), wordsFirst ? "1@2" : "2@1");
            Bench.due("good", words ? few.readWords(30) : few.readBytes(30), 2);
            Bench.due("no fault", few.fault(0) + "@" + few.fault(1), "0@0");
            Bench.due("as it was", few.same(1, 30), true);
            few.drop(30);
        }
    }
}
