import java.io.ByteArrayOutputStream;
import java.math.BigDecimal;
import java.math.RoundingMode;
import java.nio.ByteBuffer;
import java.nio.ByteOrder;
import java.util.ArrayList;
import java.util.Arrays;
import java.util.List;

/** Thrown bytes, right ones and spoilt ones, compared with an oracle that reads by descent; and what is written. */
public final class BytesOracleTest {
    private static final int[] FAULTS = new int[10];
    private static final ShapeWorkshop[] SHOPS = new ShapeWorkshop[4];
    private static final int[] CALLS = new int[4];

    private static final class Wrong extends RuntimeException {
        private static final long serialVersionUID = 1L;
        private final int code;
        private final int place;

        Wrong(int code, int place) {
            this.code = code;
            this.place = place;
        }
    }

    /** The oracle. */
    private static final class Reader {
        private final byte[] bytes;
        private final int digits;
        private final List<Integer> plan = new ArrayList<>();
        private final List<Integer> ordinates = new ArrayList<>();
        private int at;
        private int fault;
        private int place;

        Reader(byte[] bytes, int digits) {
            this.bytes = bytes;
            this.digits = digits;
            try {
                shape(0, 0);
                if (at < bytes.length) {
                    throw new Wrong(8, at);
                }
            } catch (Wrong wrong) {
                fault = wrong.code;
                place = wrong.place;
            }
        }

        private ByteBuffer next(int size, int order) {
            if (at + size > bytes.length) {
                throw new Wrong(3, at);
            }
            return ByteBuffer.wrap(bytes, at, size).order(order == 0 ? ByteOrder.BIG_ENDIAN : ByteOrder.LITTLE_ENDIAN);
        }

        private void shape(int needed, int open) {
            int order = next(1, 0).get();
            if (order != 0 && order != 1) {
                throw new Wrong(1, at);
            }
            at++;
            int type = next(4, order).getInt();
            int told = type & 0x1FFFFFFF;
            int kind = told % 1000;
            if (told / 1000 > 3 || kind < 1 || kind > 7 || needed > 0 && kind != needed) {
                throw new Wrong(2, at);
            }
            if (told >= 1000 || (type & 0xC0000000) != 0) {
                throw new Wrong(9, at);
            }
            if (kind == 7 && open == 50) {
                throw new Wrong(6, at);
            }
            at += 4;
            if ((type & 0x20000000) != 0) {
                next(4, order);
                at += 4;
            }
            if (plan.size() + 2 > 2048) {
                throw new Wrong(7, at);
            }
            plan.add(kind);
            plan.add(0);
            int counter = plan.size() - 1;
            if (kind == 1) {
                boolean whole = at + 16 <= bytes.length;
                if (whole && Double.isNaN(ByteBuffer.wrap(bytes, at, 8).order(next(1, order).order()).getDouble())
                        && Double.isNaN(ByteBuffer.wrap(bytes, at + 8, 8).order(next(1, order).order()).getDouble())) {
                    at += 16;
                    return;
                }
                plan.set(counter, 1);
                coordinate(order);
                return;
            }
            long count = next(4, order).getInt() & 0xFFFFFFFFL;
            at += 4;
            plan.set(counter, (int) count);
            for (long i = 0; i < count; i++) {
                if (kind == 2) {
                    coordinate(order);
                } else if (kind == 3) {
                    ring(order);
                } else {
                    shape(kind == 7 ? 0 : kind - 3, kind == 7 ? open + 1 : open);
                }
            }
        }

        private void ring(int order) {
            if (plan.size() + 1 > 2048) {
                throw new Wrong(7, at);
            }
            long count = next(4, order).getInt() & 0xFFFFFFFFL;
            if (count == 0) {
                throw new Wrong(4, at);
            }
            at += 4;
            plan.add((int) count);
            for (long i = 0; i < count; i++) {
                coordinate(order);
            }
        }

        private void coordinate(int order) {
            if (ordinates.size() >= 4096) {
                throw new Wrong(7, at);
            }
            for (int i = 0; i < 2; i++) {
                double value = next(8, order).getDouble();
                if (Double.isNaN(value) || Double.isInfinite(value)) {
                    throw new Wrong(4, at);
                }
                BigDecimal units = new BigDecimal(value).movePointRight(digits).setScale(0, RoundingMode.HALF_EVEN);
                if (units.abs().compareTo(new BigDecimal(1000000000)) > 0) {
                    throw new Wrong(5, at);
                }
                ordinates.add(units.intValueExact());
                at += 8;
            }
        }
    }

    public static void main(String[] args) {
        int[] rounds = Bench.rounds(args, 20000);
        for (int round = rounds[0]; round <= rounds[1]; round++) {
            Bench.Dice dice = new Bench.Dice(round + 555L);
            ByteArrayOutputStream out = new ByteArrayOutputStream();
            shape(dice, out, 0, 0);
            byte[] bytes = out.toByteArray();
            int spoils = dice.below(3);
            for (int i = 0; i < spoils; i++) {
                bytes = spoil(dice, bytes);
            }
            compare(round, bytes.length > 3000 ? Arrays.copyOf(bytes, 3000) : bytes, dice.below(4));
        }
        System.out.println("  faults " + Arrays.toString(FAULTS));
        Bench.close("BytesOracleTest");
    }

    private static void compare(int round, byte[] bytes, int digits) {
        Reader due = new Reader(bytes, digits);
        FAULTS[due.fault]++;
        CALLS[digits] += bytes.length / 20 + 120;
        if (SHOPS[digits] == null || CALLS[digits] > 500) {
            SHOPS[digits] = new ShapeWorkshop(digits);
            CALLS[digits] = bytes.length / 20 + 120;
        }
        ShapeWorkshop shop = SHOPS[digits];
        String name = "round " + round + " digits " + digits + " bytes " + Arrays.toString(bytes);
        Bench.feedBytes(shop, bytes);
        String got = Bench.readTape(shop, 31, false);
        if (due.fault != 0) {
            Bench.due(name, got, due.fault + "@" + due.place);
            Bench.due(name + " leaves", shop.count(31, 0) + shop.count(31, 1), 0);
            return;
        }
        Bench.due(name, got, Integer.toString(due.plan.get(0)));
        Bench.due(name + " plan", shop.count(31, 0), due.plan.size());
        Bench.due(name + " points", 2 * shop.count(31, 1), due.ordinates.size());
        for (int i = 0; i < due.plan.size() && i < 15; i++) {
            Bench.due(name + " plan " + i, shop.plan(31, i), (int) due.plan.get(i));
        }
        for (int i = 0; i < due.ordinates.size() && i < 20; i++) {
            Bench.due(name + " ordinate " + i, shop.ordinate(31, i / 2, i % 2), (int) due.ordinates.get(i));
        }
        int order = round % 2;
        ByteArrayOutputStream out = new ByteArrayOutputStream();
        write(due, out, order, digits);
        int size = shop.writeBytes(31, order);
        Bench.due(name + " written", size, out.size());
        shop.again();
        Bench.due(name + " read again", Bench.readTape(shop, 30, false), got);
        Bench.due(name + " the same", shop.same(30, 31), true);
        if (round % 40 == 0 && size < 300) {
            ShapeWorkshop other = new ShapeWorkshop(digits);
            Bench.feedBytes(other, bytes);
            other.readBytes(0);
            Bench.due(name + " result", Arrays.toString(Bench.result(other, other.writeBytes(0, order))),
                    Arrays.toString(out.toByteArray()));
        }
    }

    private static void write(Reader read, ByteArrayOutputStream out, int order, int digits) {
        int[] point = {0};
        for (int at = 0; at < read.plan.size();) {
            int kind = read.plan.get(at++);
            int count = read.plan.get(at++);
            out.write(order);
            putInt(out, kind, order);
            if (kind == 1 && count == 0) {
                putLong(out, 0x7FF8000000000000L, order);
                putLong(out, 0x7FF8000000000000L, order);
            }
            if (kind != 1) {
                putInt(out, count, order);
            }
            int rows = kind < 3 ? 1 : kind == 3 ? count : 0;
            for (int row = 0; row < rows; row++) {
                int length = kind < 3 ? count : read.plan.get(at++);
                if (kind == 3) {
                    putInt(out, length, order);
                }
                for (int i = 0; i < 2 * length; i++) {
                    double value = read.ordinates.get(point[0]++) / Math.pow(10, digits);
                    putLong(out, value == 0 ? 0 : Double.doubleToRawLongBits(value), order);
                }
            }
        }
    }

    private static void putInt(ByteArrayOutputStream out, int value, int order) {
        byte[] bytes = ByteBuffer.allocate(4).order(order == 0 ? ByteOrder.BIG_ENDIAN : ByteOrder.LITTLE_ENDIAN)
                .putInt(value).array();
        out.write(bytes, 0, 4);
    }

    private static void putLong(ByteArrayOutputStream out, long value, int order) {
        byte[] bytes = ByteBuffer.allocate(8).order(order == 0 ? ByteOrder.BIG_ENDIAN : ByteOrder.LITTLE_ENDIAN)
                .putLong(value).array();
        out.write(bytes, 0, 8);
    }

    private static void shape(Bench.Dice dice, ByteArrayOutputStream out, int needed, int depth) {
        int order = dice.below(2);
        if (needed == 0 && dice.below(400) == 0) {
            for (int i = 0; i < 49 + dice.below(4); i++) {
                out.write(order);
                putInt(out, 7, order);
                putInt(out, 1, order);
            }
        }
        int kind = needed > 0 ? needed : 1 + dice.below(depth < 4 ? 7 : 3);
        out.write(dice.below(300) == 0 ? dice.below(256) : order);
        int type = kind;
        switch (dice.below(25)) {
            case 0:
                type |= 1 << 29 + dice.below(3);
                break;
            case 1:
                type |= 1 << 29;
                break;
            case 2:
                type += dice.below(3) == 0 ? dice.below(6) * 1000 : 0;
                break;
            case 3:
                type = dice.below(6) == 0 ? dice.below(10) : type;
                break;
            default:
                break;
        }
        putInt(out, type, order);
        if ((type & 1 << 29) != 0) {
            putInt(out, dice.below(1000), order);
        }
        if (kind == 1) {
            putLong(out, ordinate(dice, 4), order);
            putLong(out, ordinate(dice, 4), order);
            return;
        }
        int count = dice.below(4);
        putInt(out, dice.below(150) == 0 ? -1 : count, order);
        for (int i = 0; i < count; i++) {
            if (kind == 2) {
                putLong(out, ordinate(dice, 60), order);
                putLong(out, ordinate(dice, 60), order);
            } else if (kind == 3) {
                int points = dice.below(60) == 0 ? 0 : 1 + dice.below(3);
                putInt(out, points, order);
                for (int k = 0; k < 2 * points; k++) {
                    putLong(out, ordinate(dice, 60), order);
                }
            } else {
                shape(dice, out, kind == 7 ? 0 : kind - 3, depth + 1);
            }
        }
    }

    private static long ordinate(Bench.Dice dice, int odd) {
        if (dice.below(odd) == 0) {
            long[] bits = {0x7FF8000000000000L, 0xFFF0000000000001L, 0x7FF8000000000000L, 0x7FF0000000000000L,
                0x7FFFFFFFFFFFFFFFL, 0xFFF0000000000000L, 0x7FF8000000000000L};
            return bits[dice.below(bits.length)];
        }
        switch (dice.below(9)) {
            case 0:
                return Double.doubleToRawLongBits(dice.below(200) - 100 + 0.5);
            case 1:
                return Double.doubleToRawLongBits((dice.below(20001) - 10000) / 16.0);
            case 2:
                return dice.next() & 0x800FFFFFFFFFFFFFL | (long) (1023 + dice.below(22)) << 52;
            case 3:
                return dice.next() & 0x800FFFFFFFFFFFFFL | (long) (1023 - dice.below(30)) << 52;
            case 4:
                double[] edges = {1e9, -1e9, 1e9 + 0.5, 1e9 + 0.75, 1e6, 1000000.0005, 1000000.0004, 1e8, 1e7, 0.0,
                    -0.0, Double.MIN_VALUE, 0.0005, 0.0015, 0.05, 0.15, 1e300, 4503599627370497.0, 1e17};
                return Double.doubleToRawLongBits(edges[dice.below(dice.below(6) == 0 ? edges.length
                        : edges.length - 3)]);
            case 5:
                return Double.doubleToRawLongBits(dice.from(-1000000, 1000000) / 1000.0);
            case 6:
                return dice.below(12) == 0 ? dice.next() : 0;
            default:
                return Double.doubleToRawLongBits(dice.below(2000) - 1000);
        }
    }

    private static byte[] spoil(Bench.Dice dice, byte[] bytes) {
        int at = dice.below(bytes.length + 1);
        byte[] spoilt = bytes.clone();
        switch (dice.below(3)) {
            case 0:
                return Arrays.copyOf(bytes, at);
            case 1:
                return Arrays.copyOf(bytes, bytes.length + dice.below(3));
            default:
                if (at < bytes.length) {
                    spoilt[at] = (byte) (dice.below(3) == 0 ? dice.below(256) : dice.below(8));
                }
                return spoilt;
        }
    }
}
