import java.io.ByteArrayOutputStream;
import java.math.BigDecimal;
import java.math.RoundingMode;
import java.util.ArrayList;
import java.util.Arrays;
import java.util.List;

/** Promises 6, 7 and 9, the edges: each order and type, bytes that end, numbers at their bounds, the last with room. */
public final class ByteEdgesTest {
    private static final long NO_NUMBER = 0x7FF8000000000000L;
    private static final long INFINITE = 0x7FF0000000000000L;
    private static final long MINUS = Long.MIN_VALUE;

    /** Bytes in the making, and where each thing in them begins. */
    private static final class Row {
        private final ByteArrayOutputStream bytes = new ByteArrayOutputStream();
        private final List<Integer> begins = new ArrayList<>();
        private int order;

        private Row put(long value, int size) {
            begins.add(bytes.size());
            for (int i = 0; i < size; i++) {
                bytes.write((int) (value >>> 8 * (order == 1 ? i : size - 1 - i)));
            }
            return this;
        }

        Row shape(int itsOrder, long type) {
            order = itsOrder;
            return put(order, 1).put(type, 4);
        }

        Row count(long n) {
            return put(n, 4);
        }

        Row xy(double x, double y) {
            return put(Double.doubleToRawLongBits(x), 8).put(Double.doubleToRawLongBits(y), 8);
        }

        int size() {
            return bytes.size();
        }
    }

    public static void main(String[] args) {
        orders();
        types();
        typesOfParts();
        cuts();
        counts();
        oddNumbers();
        ranges();
        ties();
        deep();
        roomForPlan();
        roomForPoints();
        written();
        Bench.close("ByteEdgesTest");
    }

    private static ShapeWorkshop whole;
    private static int reads;

    /** Of whole units; an object is used for some reads, each into another slot. */
    private static String read(byte[] bytes) {
        if (whole == null || reads % 16 == 0) {
            whole = new ShapeWorkshop(0);
        }
        reads++;
        Bench.feedBytes(whole, bytes);
        return Bench.readTape(whole, reads % 32, false);
    }

    private static void due(String name, Row row, String want) {
        Bench.due(name, read(row.bytes.toByteArray()), want);
    }

    private static void orders() {
        for (int order = 0; order < 256; order++) {
            Row row = new Row();
            row.put(order, 1);
            row.order = order;
            row.put(2, 4).put(0, 4);
            due("order " + order, row, order < 2 ? "2" : "1@0");
            Row part = new Row().shape(0, 7).count(1);
            part.put(order, 1);
            part.order = order;
            part.put(2, 4).put(0, 4);
            due("order of a part " + order, part, order < 2 ? "7" : "1@9");
        }
        due("order is ahead of the end", new Row().put(2, 1), "1@0");
        due("the end is ahead of the type", new Row().put(0, 1).put(0, 3), "3@1");
    }

    private static String typeDue(long told, int bits, int needed, int at, String good) {
        long kind = told % 1000;
        if (told > 3999 || kind < 1 || kind > 7 || needed > 0 && kind != needed) {
            return "2@" + at;
        }
        return told > 999 || bits > 1 ? "9@" + at : good;
    }

    private static void types() {
        long[] told = new long[60];
        for (int i = 0; i < 50; i++) {
            told[i] = 1000 * (i / 10) + i % 10;
        }
        long[] odd = {999, 1999, 2999, 3999, 4999, 5001, 7001, 10001, (1 << 29) - 1, (1 << 28) + 1};
        System.arraycopy(odd, 0, told, 50, 10);
        for (long type : told) {
            // bit 29 is the lowest of three
            for (int bits = 0; bits < 8; bits++) {
                for (int order = 0; order < 2; order++) {
                    Row row = new Row().shape(order, (long) bits << 29 | type);
                    if ((bits & 1) == 1) {
                        row.put(0xFFFFFFFFL, 4);
                    }
                    Row whole = type == 1 ? row.xy(1, 2) : row.count(0);
                    due("type " + type + " bits " + bits, whole, typeDue(type, bits, 0, 1, "" + type));
                }
            }
        }
    }

    private static void typesOfParts() {
        for (int kind = 4; kind < 7; kind++) {
            for (int type = 0; type < 4010; type = type % 1000 < 9 ? type + 1 : type - type % 1000 + 1000) {
                for (int bits = 0; bits < 8; bits++) {
                    Row row = new Row().shape(1, kind).count(1).shape(0, (long) bits << 29 | type);
                    if ((bits & 1) == 1) {
                        row.put(7, 4);
                    }
                    due(kind + " with " + type + " bits " + bits, kind == 4 ? row.xy(1, 2) : row.count(0),
                            typeDue(type, bits, kind - 3, 10, "" + kind));
                }
            }
        }
    }

    /** All kinds, with marks and without, in both orders: cut off anywhere, and with something behind. */
    private static void cuts() {
        Row row = new Row().shape(0, 7).count(7).shape(1, 1).xy(1, 2).shape(0, 1L << 29 | 2).put(99, 4).count(2)
                .xy(3, 4).xy(5, 6).shape(1, 1L << 29 | 3).put(98, 4).count(2).count(1).xy(1, 1).count(2).xy(1, 2)
                .xy(3, 4).shape(0, 4).count(2).shape(1, 1).xy(9, 9).shape(0, 1L << 29 | 1).put(97, 4).xy(8, 8)
                .shape(1, 5).count(2).shape(0, 2).count(0).shape(1, 2).count(1).xy(7, 7).shape(0, 6).count(1)
                .shape(1, 3).count(1).count(1).xy(1, 2).shape(0, 7).count(1).shape(0, 7).count(0);
        byte[] bytes = row.bytes.toByteArray();
        for (int end = 0; end < bytes.length; end++) {
            int begin = 0;
            for (int each : row.begins) {
                begin = each <= end ? each : begin;
            }
            Bench.due("cut off at " + end, read(Arrays.copyOf(bytes, end)), "3@" + begin);
        }
        Bench.due("whole", read(bytes), "7");
        Bench.due("one more", read(Arrays.copyOf(bytes, bytes.length + 1)), "8@" + bytes.length);
        bytes = Arrays.copyOf(bytes, bytes.length + 30);
        Arrays.fill(bytes, bytes.length - 30, bytes.length, (byte) 0xFF);
        Bench.due("many more", read(bytes), "8@" + (bytes.length - 30));
    }

    private static void counts() {
        long[] many = {1, 2, 0x7FFFFFFFL, 0x80000000L, 0x80000001L, 0xFFFFFFFFL};
        for (long n : many) {
            for (int order = 0; order < 2; order++) {
                due("points " + n, new Row().shape(order, 2).count(n), "3@9");
                due("a point of " + n, new Row().shape(order, 2).count(n).xy(1, 2), n == 1 ? "2" : "3@25");
                due("rings " + n, new Row().shape(order, 3).count(n), "3@9");
                due("a ring of " + n, new Row().shape(order, 3).count(n).count(1).xy(1, 2), n == 1 ? "3" : "3@29");
                due("points of a ring " + n, new Row().shape(order, 3).count(1).count(n).xy(1, 2),
                        n == 1 ? "3" : "3@29");
                due("parts " + n, new Row().shape(order, 7).count(n), "3@9");
                due("a part of " + n, new Row().shape(order, 5).count(n).shape(order, 2).count(0),
                        n == 1 ? "5" : "3@18");
            }
        }
        for (int kind = 2; kind < 8; kind++) {
            due("none of " + kind, new Row().shape(0, kind).count(0), "" + kind);
            due("none of " + kind + " and more", new Row().shape(0, kind).count(0).put(0, 1), "8@9");
        }
        due("a ring of none", new Row().shape(0, 3).count(2).count(1).xy(1, 1).count(0).xy(1, 1), "4@29");
        due("a ring of none at the end", new Row().shape(1, 3).count(1).count(0), "4@9");
    }

    private static void pointDue(long x, long y, String want) {
        String name = "point " + Long.toHexString(x) + " " + Long.toHexString(y);
        due(name, new Row().shape(0, 1).put(x, 8).put(y, 8), want.contains("@") ? want : "1");
        due(name + " lowest first", new Row().shape(1, 1).put(x, 8).put(y, 8), want.contains("@") ? want : "1");
        ShapeWorkshop shop = new ShapeWorkshop(0);
        Bench.feedBytes(shop, new Row().shape(0, 1).put(x, 8).put(y, 8).bytes.toByteArray());
        if (!want.contains("@")) {
            shop.readBytes(0);
            Bench.due(name, shop.plan(0, 1) + " " + shop.count(0, 1), want);
        }
        // of a line no point is left out
        String line = want.equals("0 0") ? "4@9" : want.contains("@") ? want.charAt(0) + "@"
                + (Integer.parseInt(want.substring(2)) + 4) : "2";
        due("line's " + name, new Row().shape(0, 2).count(1).put(x, 8).put(y, 8), line);
    }

    private static void oddNumbers() {
        long one = Double.doubleToRawLongBits(1);
        long[] none = {NO_NUMBER, INFINITE | 1, INFINITE | 1L << 51, INFINITE | (1L << 52) - 1, NO_NUMBER | MINUS,
            INFINITE | 1 | MINUS, -1L};
        long[] infinite = {INFINITE, INFINITE | MINUS};
        for (long x : none) {
            for (long y : none) {
                pointDue(x, y, "0 0");
            }
            for (long y : infinite) {
                pointDue(x, y, "4@5");
                pointDue(y, x, "4@5");
            }
            pointDue(x, one, "4@5");
            pointDue(one, x, "4@13");
            pointDue(x, 0, "4@5");
            pointDue(x, Double.doubleToRawLongBits(1e300), "4@5");
            pointDue(Double.doubleToRawLongBits(1e300), x, "5@5");
        }
        for (long x : infinite) {
            pointDue(x, one, "4@5");
            pointDue(one, x, "4@13");
            pointDue(x, x, "4@5");
        }
        // E of 2046 and 0 are numbers
        pointDue(INFINITE - 1, one, "5@5");
        pointDue(one, INFINITE - 1 | MINUS, "5@13");
        pointDue(MINUS, MINUS | 1, "1 1");
        pointDue((1L << 52) - 1, 1L << 52, "1 1");
        // a point that is not there whole is no empty one
        due("no number, and the end", new Row().shape(0, 1).put(NO_NUMBER, 8), "4@5");
        due("no number, and seven bytes", new Row().shape(0, 1).put(NO_NUMBER, 8).put(0x7FF80000000000L, 7), "4@5");
        due("infinite, and the end", new Row().shape(0, 1).put(INFINITE, 8), "4@5");
        due("too far, and the end", new Row().shape(0, 1).xy(2e9, 0), "5@5");
        due("seven bytes", new Row().shape(0, 1).put(0x7FF80000000000L, 7), "3@5");
    }

    private static String roundedDue(int digits, double value) {
        BigDecimal units = new BigDecimal(value).scaleByPowerOfTen(digits).setScale(0, RoundingMode.HALF_EVEN);
        return units.abs().compareTo(BigDecimal.valueOf(1000000000)) > 0 ? "5@5" : units.toString();
    }

    private static void valueDue(int digits, double value) {
        ShapeWorkshop shop = new ShapeWorkshop(digits);
        for (int order = 0; order < 2; order++) {
            Bench.feedBytes(shop, new Row().shape(order, 1).xy(value, value).bytes.toByteArray());
            String got = Bench.readTape(shop, 1, false);
            Bench.due(digits + " digits of " + value, got.contains("@") ? got : "" + shop.ordinate(1, 0, 0),
                    roundedDue(digits, value));
            if (!got.contains("@")) {
                Bench.due("y like x", shop.ordinate(1, 0, 1), shop.ordinate(1, 0, 0));
            }
        }
    }

    private static void ranges() {
        for (int digits = 0; digits < 4; digits++) {
            double one = Math.pow(10, digits);
            for (double units : new double[] {1000000000, 1000000000.5, 1000000001, 999999999.5, 1000000001.5}) {
                double value = units / one;
                long bits = Double.doubleToRawLongBits(value);
                for (int more = -6; more <= 6; more++) {
                    valueDue(digits, Double.longBitsToDouble(bits + more));
                    valueDue(digits, -Double.longBitsToDouble(bits + more));
                }
            }
        }
        int[] powers = {30, 31, 32, 52, 53, 54, 62, 63, 64, 65, 1023};
        for (int power : powers) {
            for (int digits = 0; digits < 4; digits++) {
                valueDue(digits, Math.scalb(1.0, power));
                valueDue(digits, -Math.scalb(1.75, power));
                valueDue(digits, Math.scalb(1.0, -power));
                valueDue(digits, Math.scalb(1.999999999999, -power));
            }
        }
        valueDue(3, Double.MIN_VALUE);
        valueDue(3, -Double.MAX_VALUE);
        valueDue(0, Double.MIN_NORMAL);
    }

    private static void ties() {
        for (int n = -9; n < 10; n++) {
            for (int digits = 0; digits < 4; digits++) {
                // with 1 to 3 digits 0.125 and its like are halves to the bit
                for (double part : new double[] {0.5, 0.25, 0.125, 0.0625, 0.75, 0.375, 0.625, 0.05, 0.005, 0.0005}) {
                    double value = n + part;
                    valueDue(digits, value);
                    valueDue(digits, Math.nextUp(value));
                    valueDue(digits, Math.nextDown(value));
                }
            }
        }
    }

    private static void deep() {
        Row row = new Row();
        for (int i = 0; i < 49; i++) {
            row.shape(i % 2, 7).count(1);
        }
        Row last = row.shape(0, 7).count(2);
        int at = last.size();
        byte[] fifty = last.bytes.toByteArray();
        String[] next = {"empty", "marked", "many"};
        for (String way : next) {
            Row more = new Row().shape(1, way.equals("marked") ? 1L << 29 | 7 : 7);
            if (way.equals("marked")) {
                more.put(0, 4);
            }
            more.count(way.equals("many") ? 5 : 0);
            Bench.due("one in fifty, " + way, read(joined(fifty, more)), "6@" + (at + 1));
        }
        Bench.due("before its mark", read(joined(fifty, new Row().shape(0, 1L << 29 | 7))), "6@" + (at + 1));
        Bench.due("more is ahead", read(joined(fifty, new Row().shape(0, 1L << 31 | 7))), "9@" + (at + 1));
        Bench.due("kind is ahead", read(joined(fifty, new Row().shape(0, 8))), "2@" + (at + 1));
        Bench.due("a point in fifty", read(joined(fifty, new Row().shape(0, 1).xy(1, 1).shape(0, 1).xy(1, 1))), "7");
        Bench.due("the second one", read(joined(fifty, new Row().shape(0, 1).xy(1, 1).shape(0, 7).count(0))),
                "6@" + (at + 22));
        Bench.due("a multipolygon in fifty", read(joined(fifty, new Row().shape(0, 6).count(1).shape(0, 3).count(0)
                .shape(1, 5).count(0))), "7");
        // sixty beside one another are not in one another
        Row wide = new Row().shape(0, 7).count(60);
        for (int i = 0; i < 60; i++) {
            wide.shape(0, 7).count(0);
        }
        due("sixty beside one another", wide, "7");
        Row closed = new Row().shape(0, 7).count(2);
        for (int i = 0; i < 49; i++) {
            closed.shape(0, 7).count(i < 48 ? 1 : 0);
        }
        for (int i = 0; i < 49; i++) {
            closed.shape(0, 7).count(i < 48 ? 1 : 0);
        }
        due("fifty twice", closed, "7");
    }

    private static byte[] joined(byte[] first, Row second) {
        byte[] all = Arrays.copyOf(first, first.length + second.size());
        System.arraycopy(second.bytes.toByteArray(), 0, all, first.length, second.size());
        return all;
    }

    /** What is written of a shape in words stands on the tape but for its last bytes, then others: what is read. */
    private static String readBehind(ShapeWorkshop shop, int size, int dropped, Row more) {
        shop.again();
        shop.end(20 - dropped);
        Bench.feedBytes(shop, more.bytes.toByteArray());
        Bench.due("the tape", shop.count(0, 2), size - dropped + more.size());
        return Bench.readTape(shop, 1, false);
    }

    private static void roomForPlan() {
        String odd = "GEOMETRYCOLLECTION(POLYGON((0 0)),MULTIPOINT(" + "EMPTY,".repeat(1018) + "EMPTY),";
        ShapeWorkshop shop = Bench.with(odd + "MULTILINESTRING EMPTY)");
        int size = shop.writeBytes(0, 0);
        Bench.due("one plan number is left", shop.count(0, 0), 2047);
        Row part = new Row().count(1).shape(0, 2);
        Bench.due("a part", readBehind(shop, size, 4, part), "7@" + (size + 5));
        Bench.due("a part and its count", readBehind(shop, size, 4, new Row().count(1).shape(0, 2).count(0)),
                "7@" + (size + 5));
        Bench.due("a part without its mark", readBehind(shop, size, 4, new Row().count(1).shape(0, 1L << 29 | 2)
                .put(5, 3)), "3@" + (size + 5));
        Bench.due("a part with a mark", readBehind(shop, size, 4, new Row().count(1).shape(0, 1L << 29 | 2)
                .put(5, 4)), "7@" + (size + 9));
        Bench.due("a part of another kind", readBehind(shop, size, 4, new Row().count(1).shape(0, 1)),
                "2@" + (size + 1));
        Bench.put(shop, 0, odd + "POLYGON EMPTY)");
        size = shop.writeBytes(0, 0);
        Bench.due("a ring", readBehind(shop, size, 4, new Row().count(1).count(1).xy(1, 2)), "7");
        Bench.due("its plan", shop.count(1, 0), 2048);
        Bench.due("a second ring", readBehind(shop, size, 4, new Row().count(2).count(1).xy(1, 2).count(1).xy(1, 2)),
                "7@" + (size + 20));
        Bench.due("full is ahead of the end", readBehind(shop, size, 4, new Row().count(2).count(1).xy(1, 2)),
                "7@" + (size + 20));
        Bench.due("full is ahead of a count of 0", readBehind(shop, size, 4, new Row().count(2).count(1).xy(1, 2)
                .count(0)), "7@" + (size + 20));
        Bench.due("nothing is left then", shop.count(1, 0), 0);
        String even = "GEOMETRYCOLLECTION(MULTIPOINT(" + "EMPTY,".repeat(1019) + "EMPTY),POLYGON((0 0)),";
        Bench.put(shop, 0, even.replace("POLYGON((0 0))", "POINT EMPTY") + "GEOMETRYCOLLECTION EMPTY)");
        size = shop.writeBytes(0, 0);
        Bench.due("none is left", shop.count(0, 0), 2048);
        for (int kind = 1; kind <= 7; kind++) {
            Bench.due("a part of kind " + kind, readBehind(shop, size, 4, new Row().count(1).shape(0, kind)),
                    "7@" + (size + 5));
        }
        Bench.due("the end is ahead", readBehind(shop, size, 4, new Row().count(1).put(0, 1)), "3@" + (size + 1));
    }

    private static void roomForPoints() {
        String line = "GEOMETRYCOLLECTION(LINESTRING(" + "0 0,".repeat(2047) + "0 0),";
        Row[] more = {new Row().count(1), new Row().count(1).xy(1, 2), new Row().count(1).put(NO_NUMBER, 8)
            .put(NO_NUMBER, 8), new Row().count(1).put(INFINITE, 8), new Row().count(1).xy(2e9, 2e9)};
        ShapeWorkshop shop = Bench.with(line + "LINESTRING EMPTY)");
        int size = shop.writeBytes(0, 0);
        for (Row row : more) {
            Bench.due("a point of a line", readBehind(shop, size, 4, row), "7@" + size);
        }
        Bench.put(shop, 0, line + "POLYGON EMPTY)");
        size = shop.writeBytes(0, 0);
        for (Row row : more) {
            byte[] rings = {0, 0, 0, 1};
            Row ring = new Row();
            ring.bytes.writeBytes(joined(rings, row));
            Bench.due("a point of a ring", readBehind(shop, size, 4, ring), "7@" + (size + 4));
        }
        Bench.due("a ring of none", readBehind(shop, size, 4, new Row().count(1).count(0)), "4@" + size);
        Bench.put(shop, 0, line + "MULTIPOINT EMPTY)");
        size = shop.writeBytes(0, 0);
        int at = size + 5;
        Bench.due("a point", readBehind(shop, size, 4, new Row().count(1).shape(0, 1).xy(1, 2)), "7@" + at);
        Bench.due("a half of it", readBehind(shop, size, 4, new Row().count(1).shape(0, 1).put(NO_NUMBER, 8)),
                "7@" + at);
        Bench.due("no number and one", readBehind(shop, size, 4, new Row().count(1).shape(0, 1).put(NO_NUMBER, 8)
                .put(0, 8)), "7@" + at);
        Bench.due("one and no number", readBehind(shop, size, 4, new Row().count(1).shape(0, 1).put(0, 8)
                .put(NO_NUMBER, 8)), "7@" + at);
        Bench.due("infinite", readBehind(shop, size, 4, new Row().count(1).shape(0, 1).put(INFINITE, 8)
                .put(INFINITE, 8)), "7@" + at);
        Bench.due("nothing of it", readBehind(shop, size, 4, new Row().count(1).shape(0, 1)), "7@" + at);
        Bench.due("an empty one", readBehind(shop, size, 4, new Row().count(1).shape(0, 1).put(NO_NUMBER, 8)
                .put(NO_NUMBER, 8)), "7");
        // one less, and there is room for one, not for two
        Bench.put(shop, 0, line.replaceFirst("0 0,", "") + "LINESTRING EMPTY)");
        size = shop.writeBytes(0, 0);
        Bench.due("the last one", readBehind(shop, size, 4, new Row().count(1).xy(1, 2)), "7");
        Bench.due("points", shop.count(1, 1), 2048);
        Bench.due("one more", readBehind(shop, size, 4, new Row().count(2).xy(1, 2).xy(1, 2)), "7@" + (size + 16));
    }

    private static void writtenDue(int digits, int units) {
        ShapeWorkshop shop = new ShapeWorkshop(digits);
        Bench.put(shop, 0, "POINT (" + units + "e-" + digits + " 0)");
        double due = units / Math.pow(10, digits);
        for (int order = 0; order < 2; order++) {
            Row row = new Row().shape(order, 1).xy(due == 0 ? 0.0 : due, 0.0);
            Bench.due("bytes of " + units, shop.writeBytes(0, order), 21);
            Bench.due("bytes of " + units + " with " + digits + " digits", Arrays.toString(Bench.result(shop, 21)),
                    Arrays.toString(row.bytes.toByteArray()));
        }
    }

    private static void written() {
        for (int digits = 0; digits < 4; digits++) {
            for (int n = 0; n < 40; n++) {
                writtenDue(digits, n);
                writtenDue(digits, -n);
                writtenDue(digits, 1000000000 - n);
                writtenDue(digits, n - 1000000000);
            }
            for (int power = 1; power < 30; power++) {
                for (int more = -1; more <= 1; more++) {
                    writtenDue(digits, (1 << power) + more);
                }
            }
        }
        // what is written of nothing
        for (int kind = 2; kind <= 7; kind++) {
            ShapeWorkshop shop = Bench.with(Told.WORDS[kind] + " EMPTY");
            for (int order = 0; order < 2; order++) {
                Bench.due("bytes of none", shop.writeBytes(0, order), 9);
                Bench.due("bytes of none", Arrays.toString(Bench.result(shop, 9)),
                        Arrays.toString(new Row().shape(order, kind).count(0).bytes.toByteArray()));
            }
        }
    }
}
