import java.util.ArrayList;
import java.util.List;

/**
 * All promises: what an object has done before leaves nothing behind but what the document says. Each answer of an
 * object that is used for five hundred calls is that of a new one with the same shapes alone.
 */
public final class AgainTest {
    public static void main(String[] args) {
        int[] rounds = Bench.rounds(args, 150);
        for (int round = rounds[0]; round <= rounds[1]; round++) {
            run(round, new Bench.Dice(round + 1618L));
        }
        Bench.close("AgainTest");
    }

    private static void run(int round, Bench.Dice dice) {
        int digits = dice.below(4);
        ShapeWorkshop old = new ShapeWorkshop(digits);
        List<byte[]> shapes = new ArrayList<>();
        int calls = 0;
        while (calls < 450) {
            if (shapes.size() < 2 || dice.below(4) == 0) {
                byte[] bytes = bytes(thrown(dice), digits);
                calls += bytes.length / 20 + 3;
                if (bytes.length > 2000 || calls > 450) {
                    continue;
                }
                int slot = shapes.size() < 4 ? shapes.size() : dice.below(4);
                if (slot == shapes.size()) {
                    shapes.add(bytes);
                }
                shapes.set(slot, bytes);
                Bench.feedBytes(old, bytes);
                Bench.holds("read " + round, old.readBytes(slot) > 0);
                continue;
            }
            int one = dice.below(shapes.size());
            int two = dice.below(shapes.size());
            int what = dice.below(12);
            int more = dice.below(9);
            calls += 14;
            ShapeWorkshop fresh = new ShapeWorkshop(digits);
            Bench.feedBytes(fresh, shapes.get(one));
            fresh.readBytes(one);
            Bench.feedBytes(fresh, shapes.get(two));
            fresh.readBytes(two);
            Bench.due("round " + round + " call " + what + " " + more, answer(old, what, more, one, two),
                    answer(fresh, what, more, one, two));
        }
    }

    private static Told thrown(Bench.Dice dice) {
        int size = 1 + dice.below(dice.below(6) == 0 ? 30 : 8);
        Shapes.Spread spread = Shapes.Spread.thrown(dice, size, dice.below(5) == 0 ? 1000000000 : 500000000);
        Told told = Shapes.any(dice, spread, size);
        return dice.below(8) == 0 ? new Told(7).part(told).part(Shapes.any(dice, spread, size)) : told;
    }

    private static byte[] bytes(Told told, int digits) {
        // as words of whole units, whatever digits are kept
        ShapeWorkshop shop = new ShapeWorkshop(0);
        Bench.put(shop, 0, told.words());
        if (digits == 0) {
            return Bench.result(shop, shop.writeBytes(0, told.pointCount() % 2));
        }
        ShapeWorkshop other = new ShapeWorkshop(digits);
        Bench.put(other, 0, told.words().replaceAll("(\\d+)", "$1e-" + digits));
        return Bench.result(other, other.writeBytes(0, told.pointCount() % 2));
    }

    private static String answer(ShapeWorkshop shop, int what, int more, int one, int two) {
        StringBuilder text = new StringBuilder();
        switch (what) {
            case 0:
                text.append(Bench.outcome(() -> shop.judge(one)));
                for (int i = 0; i < 7; i++) {
                    text.append(' ').append(shop.place(i));
                }
                return text.toString();
            case 1:
            case 2:
                return shaped(shop, Bench.outcome(() -> shop.overlay(more % 5, one, two, 9)));
            case 3:
                return Bench.outcome(() -> shop.relate(one, two));
            case 4:
                return Bench.outcome(() -> shop.is(more, one, two) ? 1 : 0);
            case 5:
                return Bench.outcome(() -> shop.locate(one, more - 4, 2 - more));
            case 6:
                return shaped(shop, Bench.outcome(() -> shop.hull(one, 9)));
            case 7:
                return shaped(shop, Bench.outcome(() -> shop.triangles(one, 9)));
            case 8:
                return shaped(shop, Bench.outcome(() -> shop.simplify(one, 9, more * more)));
            case 9:
                text.append(Bench.outcome(() -> shop.area(one))).append(Bench.outcome(() -> shop.bounds(one, more)));
                return text.append(Bench.outcome(() -> shop.same(one, two) ? 1 : 0)).toString();
            case 10:
                return result(shop, shop.writeWords(one));
            default:
                return result(shop, shop.writeBytes(one, more % 2));
        }
    }

    private static String shaped(ShapeWorkshop shop, String outcome) {
        return outcome.length() > 9 ? outcome : outcome + " " + Told.of(shop, 9).words();
    }

    private static String result(ShapeWorkshop shop, int size) {
        return java.util.Arrays.toString(Bench.result(shop, size));
    }
}
