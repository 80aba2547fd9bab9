/** Promises 1 to 4 and 10, and what the tape and the result are for the other calls. */
public final class TapeTest {
    public static void main(String[] args) {
        newObject();
        feeding();
        ending();
        limits();
        results();
        readingEmptiesTheTape();
        Bench.close("TapeTest");
    }

    private static void newObject() {
        ShapeWorkshop shop = new ShapeWorkshop(0);
        for (int what = 0; what < 6; what++) {
            Bench.due("new count " + what, shop.count(0, what), 0);
        }
        Bench.due("new fault", shop.fault(0), 0);
        Bench.due("new fault's place", shop.fault(1), 0);
        for (int what = 0; what < 7; what++) {
            Bench.due("new place " + what, shop.place(what), ShapeWorkshop.NONE);
        }
        for (int slot = 0; slot < 32; slot++) {
            Bench.due("new slot " + slot, shop.drop(slot), false);
        }
        Bench.outcomeDue("new found", () -> shop.found(0), Bench.INDEX);
        Bench.outcomeDue("new result", () -> shop.byteAt(0), Bench.INDEX);
        Bench.due("new again", shop.again(), 0);
        int[] digits = {0, 1, 2, 3, 4, 5, -1, -2, Integer.MIN_VALUE, Integer.MAX_VALUE};
        String[] due = {"1", "1.3", "1.25", "1.25", "1", "1.3", "1.25", "1.25", "1", "1.25"};
        for (int i = 0; i < digits.length; i++) {
            ShapeWorkshop other = new ShapeWorkshop(digits[i]);
            Bench.put(other, 0, "POINT (1.251 1.249)");
            String got = Bench.words(other, 0);
            Bench.due("digits " + digits[i], got.substring(7, got.indexOf(' ', 7)),
                    digits[i] == 3 || digits[i] == -1 || digits[i] == Integer.MAX_VALUE ? "1.251" : due[i]);
        }
    }

    private static void feeding() {
        ShapeWorkshop shop = new ShapeWorkshop(0);
        Bench.due("first feed", shop.feed(0x504F494E, 0x54202831, 0x20322900, -1, 0), 20);
        Bench.due("of the last twenty", shop.end(11), 11);
        Bench.due("count", shop.count(31, 2), 11);
        Bench.due("a point", shop.readWords(0), 1);
        Bench.due("x", shop.ordinate(0, 0, 0), 1);
        Bench.due("y", shop.ordinate(0, 0, 1), 2);
        Bench.due("tape is empty", shop.count(0, 2), 0);
        shop.feed(0x504F494E, 0x5420454D, 0x50545980, 0xFF000000, 0);
        Bench.due("a byte above 127 behind", Bench.readTape(shop, 1, true), "8@11");
    }

    private static void ending() {
        ShapeWorkshop shop = new ShapeWorkshop(0);
        Bench.outcomeDue("end of nothing", () -> shop.end(0), Bench.STATE);
        Bench.outcomeDue("end -1 of nothing", () -> shop.end(-1), Bench.ARGUMENT);
        Bench.outcomeDue("end 21 of nothing", () -> shop.end(21), Bench.ARGUMENT);
        shop.feed(1, 2, 3, 4, 5);
        Bench.outcomeDue("end -1", () -> shop.end(-1), Bench.ARGUMENT);
        Bench.outcomeDue("end 21", () -> shop.end(21), Bench.ARGUMENT);
        Bench.outcomeDue("end least", () -> shop.end(Integer.MIN_VALUE), Bench.ARGUMENT);
        Bench.due("end 20", shop.end(20), 20);
        shop.feed(1, 2, 3, 4, 5);
        Bench.due("end 0", shop.end(0), 20);
        Bench.due("end 19", shop.end(19), 19);
        Bench.outcomeDue("end of 19", () -> shop.end(3), Bench.STATE);
        Bench.due("unchanged", shop.count(0, 2), 19);
        Bench.due("feed on 19", shop.feed(0, 0, 0, 0, 0), 39);
    }

    private static void limits() {
        ShapeWorkshop shop = new ShapeWorkshop(0);
        for (int i = 1; i <= 3276; i++) {
            Bench.due("feed " + i, shop.feed(i, i, i, i, i), 20 * i);
        }
        Bench.outcomeDue("too much", () -> shop.feed(0, 0, 0, 0, 0), Bench.STATE);
        Bench.due("kept", shop.count(0, 2), 65520);
        Bench.due("end 16", shop.end(16), 65516);
        Bench.due("full", shop.feed(0, 0, 0, 0, 0), 65536);
        Bench.outcomeDue("one more", () -> shop.feed(0, 0, 0, 0, 0), Bench.STATE);
        Bench.due("end 0 of the full one", shop.end(0), 65516);
        // a result longer than the tape: its first 65536 bytes
        StringBuilder text = new StringBuilder("GEOMETRYCOLLECTION (");
        String row = "-1000000000 -1000000000";
        for (int i = 0; i < 511; i++) {
            text.append(i > 0 ? ", " : "").append("GEOMETRYCOLLECTION (LINESTRING (").append(row).append(", ")
                    .append(row).append(", ").append(row).append(", ").append(row).append("))");
        }
        String whole = text.append(")").toString();
        ShapeWorkshop other = new ShapeWorkshop(0);
        Bench.outcomeDue("much too long", () -> {
            Bench.feedBytes(other, Bench.latin(whole));
            return 0;
        }, whole.length() > 65536 ? Bench.STATE : "0");
        Bench.due("cut off", Bench.readTape(other, 0, true), "4@65519");
        // in bytes the same is short enough: 5 + 4 + 511 * (9 + 9 + 64)
        Bench.due("long", whole.length() > 65536, true);
        feedInBytes(other, 511);
        Bench.due("read", other.readBytes(1), 7);
        Bench.due("the whole result", other.writeWords(1), whole.length());
        Bench.due("as much as the tape takes", other.again(), 65536);
        Bench.due("the result stays", other.count(0, 3), whole.length());
        Bench.due("its last byte", other.byteAt(whole.length() - 1), ')');
        Bench.due("cut off", Bench.readTape(other, 2, true), "3@65536");
    }

    private static void feedInBytes(ShapeWorkshop shop, int lines) {
        java.nio.ByteBuffer buffer = java.nio.ByteBuffer.allocate(9 + lines * (18 + 64));
        buffer.put((byte) 0).putInt(7).putInt(lines);
        for (int i = 0; i < lines; i++) {
            buffer.put((byte) 0).putInt(7).putInt(1).put((byte) 0).putInt(2).putInt(4);
            for (int k = 0; k < 8; k++) {
                buffer.putDouble(-1000000000);
            }
        }
        Bench.feedBytes(shop, buffer.array());
    }

    private static void results() {
        ShapeWorkshop shop = Bench.with("POINT (-5 70)");
        Bench.due("length", shop.writeWords(0), 13);
        Bench.due("first", shop.byteAt(0), 'P');
        Bench.due("last", shop.byteAt(12), ')');
        Bench.outcomeDue("behind", () -> shop.byteAt(13), Bench.INDEX);
        Bench.outcomeDue("before", () -> shop.byteAt(-1), Bench.INDEX);
        Bench.outcomeDue("far", () -> shop.byteAt(Integer.MAX_VALUE), Bench.INDEX);
        Bench.due("again", shop.again(), 13);
        Bench.due("the tape", shop.count(3, 2), 13);
        Bench.due("the result", shop.count(3, 3), 13);
        shop.feed(0, 0, 0, 0, 0);
        Bench.due("again instead of what was there", shop.again(), 13);
        Bench.due("read", shop.readWords(5), 1);
        Bench.due("result stays", shop.byteAt(12), ')');
        Bench.due("in bytes", shop.writeBytes(0, 1), 21);
        Bench.due("a byte of 192", shop.byteAt(12), 0xC0);
        Bench.outcomeDue("no shape", () -> shop.writeWords(9), Bench.STATE);
        Bench.due("result stays when a call throws", shop.count(0, 3), 21);
    }

    private static void readingEmptiesTheTape() {
        ShapeWorkshop shop = new ShapeWorkshop(0);
        Bench.due("fault", Bench.read(shop, 0, "POINT (1"), "3@8");
        Bench.due("empty after a fault", shop.count(0, 2), 0);
        for (int slot : new int[] {-1, 32, Integer.MIN_VALUE, Integer.MAX_VALUE}) {
            shop.feed(0, 0, 0, 0, 0);
            Bench.outcomeDue("words, no slot " + slot, () -> shop.readWords(slot), Bench.INDEX);
            Bench.due("empty all the same", shop.count(0, 2), 0);
            shop.feed(0, 0, 0, 0, 0);
            Bench.outcomeDue("bytes, no slot " + slot, () -> shop.readBytes(slot), Bench.INDEX);
            Bench.due("empty all the same", shop.count(0, 2), 0);
            Bench.due("fault stays", shop.fault(0), 3);
            Bench.due("its place stays", shop.fault(1), 8);
        }
        Bench.outcomeDue("fault -1", () -> shop.fault(-1), Bench.INDEX);
        Bench.outcomeDue("fault 2", () -> shop.fault(2), Bench.INDEX);
    }
}
