import java.nio.charset.StandardCharsets;
import java.util.ArrayList;
import java.util.List;

/** What the tests share: feeding, asking, and telling what is not as due. */
final class Bench {
    private static int wrong;
    private static int asked;

    private Bench() {
    }

    interface Call {
        long answer();
    }

    interface Act {
        void run();
    }

    static void due(String what, Object got, Object want) {
        asked++;
        if (!got.equals(want)) {
            wrong++;
            if (wrong <= 40) {
                System.out.println("  " + what + " answered " + got + ", due is " + want);
            }
        }
    }

    static void due(String what, long got, long want) {
        due(what, Long.valueOf(got), Long.valueOf(want));
    }

    static void holds(String what, boolean is) {
        due(what, is, true);
    }

    /** The answer of a call, or the name of what it throws. */
    static String outcome(Call call) {
        try {
            return Long.toString(call.answer());
        } catch (RuntimeException e) {
            return e.getClass().getSimpleName();
        }
    }

    static final String INDEX = "IndexOutOfBoundsException";
    static final String STATE = "IllegalStateException";
    static final String ARGUMENT = "IllegalArgumentException";
    static final String TOO_MUCH = "UnsupportedOperationException";

    static void outcomeDue(String what, Call call, Object want) {
        due(what, outcome(call), want.toString());
    }

    static void feedBytes(ShapeWorkshop shop, byte[] bytes) {
        for (int from = 0; from < bytes.length; from += 20) {
            int[] word = new int[5];
            int left = Math.min(20, bytes.length - from);
            for (int i = 0; i < left; i++) {
                word[i / 4] |= (bytes[from + i] & 255) << 24 - 8 * (i % 4);
            }
            shop.feed(word[0], word[1], word[2], word[3], word[4]);
            if (left < 20) {
                shop.end(left);
            }
        }
    }

    static byte[] latin(String text) {
        return text.getBytes(StandardCharsets.ISO_8859_1);
    }

    /** Reads words: the kind, or "code@place" of the fault. */
    static String read(ShapeWorkshop shop, int slot, String text) {
        feedBytes(shop, latin(text));
        return readTape(shop, slot, true);
    }

    static String readTape(ShapeWorkshop shop, int slot, boolean words) {
        try {
            return Integer.toString(words ? shop.readWords(slot) : shop.readBytes(slot));
        } catch (IllegalArgumentException e) {
            return shop.fault(0) + "@" + shop.fault(1);
        }
    }

    static void put(ShapeWorkshop shop, int slot, String text) {
        String got = read(shop, slot, text);
        if (got.contains("@")) {
            throw new IllegalStateException("no shape: " + got + " " + text);
        }
    }

    static String words(ShapeWorkshop shop, int slot) {
        return new String(result(shop, shop.writeWords(slot)), StandardCharsets.ISO_8859_1);
    }

    static byte[] result(ShapeWorkshop shop, int size) {
        byte[] bytes = new byte[size];
        for (int i = 0; i < size; i++) {
            bytes[i] = (byte) shop.byteAt(i);
        }
        return bytes;
    }

    static ShapeWorkshop with(String... texts) {
        ShapeWorkshop shop = new ShapeWorkshop(0);
        for (int i = 0; i < texts.length; i++) {
            put(shop, i, texts[i]);
        }
        return shop;
    }

    static List<int[]> points(ShapeWorkshop shop, int slot) {
        List<int[]> points = new ArrayList<>();
        for (int i = 0; i < shop.count(slot, 1); i++) {
            points.add(new int[] {shop.ordinate(slot, i, 0), shop.ordinate(slot, i, 1)});
        }
        return points;
    }

    /** The first and the last round of a test: from 1 on so many, or as told on the command line. */
    static int[] rounds(String[] args, int most) {
        return args.length > 1 ? new int[] {Integer.parseInt(args[0]), Integer.parseInt(args[1])}
                : new int[] {1, most};
    }

    /** The closing line of a test. */
    static void close(String name) {
        System.out.println(name + ": " + asked + " answers, " + wrong + " not as due");
        if (wrong > 0) {
            System.exit(1);
        }
    }

    /** A small generator, the same at each run. */
    static final class Dice {
        private long state;

        Dice(long seed) {
            state = seed * 0x9E3779B97F4A7C15L + 1;
        }

        long next() {
            state ^= state << 13;
            state ^= state >>> 7;
            state ^= state << 17;
            return state * 0x2545F4914F6CDD1DL;
        }

        int below(int limit) {
            return (int) ((next() >>> 33) % limit);
        }

        int from(int low, int high) {
            return (int) (low + (next() >>> 1) % ((long) high - low + 1));
        }
    }
}
