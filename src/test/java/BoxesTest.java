import java.util.ArrayList;
import java.util.List;

/** Promises 25 to 27: windows, nearest boxes, and what was found. */
public final class BoxesTest {
    public static void main(String[] args) {
        windows();
        wrongWindows();
        nearestOnes();
        thrown();
        Bench.close("BoxesTest");
    }

    private static String found(ShapeWorkshop shop, int count) {
        StringBuilder text = new StringBuilder();
        Bench.due("found is counted", shop.count(0, 5), count);
        for (int k = 0; k < count; k++) {
            text.append(k > 0 ? " " : "").append(shop.found(k));
        }
        Bench.outcomeDue("found behind the last", () -> shop.found(count), Bench.INDEX);
        Bench.outcomeDue("found -1", () -> shop.found(-1), Bench.INDEX);
        return text.toString();
    }

    private static ShapeWorkshop drawer() {
        ShapeWorkshop shop = Bench.with("LINESTRING (0 0, 10 10)", "POINT (5 5)", "POLYGON EMPTY", "POINT (20 20)");
        Bench.put(shop, 31, "MULTIPOINT (10 0, 30 5)");
        return shop;
    }

    private static void windows() {
        ShapeWorkshop shop = drawer();
        Bench.due("all meet", found(shop, shop.find(0, -100, -100, 100, 100)), "0 1 3 31");
        Bench.due("at a corner", found(shop, shop.find(0, 10, 10, 12, 12)), "0");
        Bench.due("at a side", found(shop, shop.find(0, 10, 2, 10, 3)), "0 31");
        Bench.due("one place", found(shop, shop.find(0, 5, 5, 5, 5)), "0 1");
        Bench.due("beside", found(shop, shop.find(0, 11, 6, 19, 19)), "");
        Bench.due("lie in", found(shop, shop.find(1, 0, 0, 10, 10)), "0 1");
        Bench.due("lie in a smaller one", found(shop, shop.find(1, 1, 0, 10, 10)), "1");
        Bench.due("lie in: not above", found(shop, shop.find(1, 0, 0, 10, 9)), "1");
        Bench.due("have it in them", found(shop, shop.find(2, 0, 0, 10, 10)), "0");
        Bench.due("have a place in them", found(shop, shop.find(2, 5, 5, 5, 5)), "0 1");
        Bench.due("have it in them, both", found(shop, shop.find(2, 10, 2, 10, 3)), "0 31");
        shop.drop(0);
        Bench.due("found stays", found(shop, 2), "0 31");
    }

    private static void wrongWindows() {
        ShapeWorkshop shop = drawer();
        int far = 1000000000;
        Bench.due("the whole plane", found(shop, shop.find(0, -far, -far, far, far)), "0 1 3 31");
        int[][] wrong = {{-1, 0, 0, 1, 1}, {3, 0, 0, 1, 1}, {0, -far - 1, 0, 1, 1}, {0, 0, -far - 1, 1, 1},
            {0, 0, 0, far + 1, 1}, {0, 0, 0, 1, far + 1}, {0, 2, 0, 1, 1}, {0, 0, 2, 1, 1},
            {0, far + 1, 0, far + 2, 1}, {0, Integer.MIN_VALUE, 0, 1, 1}, {0, 0, 0, Integer.MAX_VALUE, 1}};
        for (int[] w : wrong) {
            Bench.outcomeDue("wrong window", () -> shop.find(w[0], w[1], w[2], w[3], w[4]), Bench.ARGUMENT);
        }
        int[][] places = {{0, 0, 0}, {0, 0, 33}, {0, 0, -1}, {far + 1, 0, 1}, {-far - 1, 0, 1}, {0, far + 1, 1},
            {0, -far - 1, 1}, {0, 0, Integer.MIN_VALUE}};
        for (int[] p : places) {
            Bench.outcomeDue("wrong place", () -> shop.nearest(p[0], p[1], p[2]), Bench.ARGUMENT);
        }
        Bench.due("found stays", found(shop, 4), "0 1 3 31");
    }

    private static void nearestOnes() {
        ShapeWorkshop shop = drawer();
        Bench.due("nearest", found(shop, shop.nearest(5, 5, 32)), "0 1 31 3");
        Bench.due("two of them", found(shop, shop.nearest(21, 21, 2)), "3 0");
        Bench.due("inside of all is 0", found(shop, shop.nearest(10, 3, 3)), "0 31 1");
        Bench.due("one", found(shop, shop.nearest(1000000000, -1000000000, 1)), "31");
        ShapeWorkshop wide = Bench.with("POINT (-1000000000 -1000000000)", "POINT (1000000000 1000000000)",
                "POINT (1000000000 -1000000000)", "POINT (999999999 1000000000)");
        Bench.due("far", found(wide, wide.nearest(1000000000, 1000000000, 4)), "1 3 2 0");
        ShapeWorkshop none = Bench.with("POINT EMPTY");
        Bench.due("none", found(none, none.nearest(0, 0, 5)), "");
        Bench.due("none", found(none, none.find(0, 0, 0, 5, 5)), "");
        ShapeWorkshop full = new ShapeWorkshop(0);
        for (int i = 0; i < 32; i++) {
            Bench.put(full, i, "POINT (" + (i * 7 % 32) + " 0)");
        }
        StringBuilder due = new StringBuilder();
        for (int i = 0; i < 32; i++) {
            due.append(i > 0 ? " " : "").append(i * 23 % 32);
        }
        Bench.due("all slots", found(full, full.nearest(-1, 0, 32)), due.toString());
    }

    private static void thrown() {
        for (int round = 0; round < 300; round++) {
            Bench.Dice dice = new Bench.Dice(round + 8L);
            ShapeWorkshop shop = new ShapeWorkshop(0);
            int[][] boxes = new int[32][];
            for (int i = 0; i < 32; i++) {
                if (dice.below(3) > 0) {
                    int x = dice.below(8);
                    int y = dice.below(8);
                    boxes[i] = new int[] {x, y, x + dice.below(4), y + dice.below(4)};
                    Bench.put(shop, i, "LINESTRING (" + boxes[i][0] + " " + boxes[i][3] + "," + boxes[i][2] + " "
                            + boxes[i][1] + ")");
                }
            }
            int x = dice.below(12) - 1;
            int y = dice.below(12) - 1;
            int n = 1 + dice.below(32);
            List<Integer> order = new ArrayList<>();
            for (int i = 0; i < 32; i++) {
                if (boxes[i] != null) {
                    order.add(i);
                }
            }
            order.sort((i, j) -> distance(boxes[i], x, y) - distance(boxes[j], x, y));
            Bench.due("nearest " + round, "[" + found(shop, shop.nearest(x, y, n)).replace(" ", ", ") + "]",
                    order.subList(0, Math.min(n, order.size())).toString());
            int w = dice.below(5);
            int h = dice.below(5);
            for (int what = 0; what < 3; what++) {
                List<Integer> due = new ArrayList<>();
                for (int i = 0; i < 32; i++) {
                    if (boxes[i] != null && lies(what, boxes[i], new int[] {x, y, x + w, y + h})) {
                        due.add(i);
                    }
                }
                Bench.due("find " + round, "[" + found(shop, shop.find(what, x, y, x + w, y + h)).replace(" ", ", ")
                        + "]", due.toString());
            }
        }
    }

    private static int distance(int[] box, int x, int y) {
        int best = Integer.MAX_VALUE;
        for (int px = box[0]; px <= box[2]; px++) {
            for (int py = box[1]; py <= box[3]; py++) {
                best = Math.min(best, (px - x) * (px - x) + (py - y) * (py - y));
            }
        }
        return best;
    }

    private static boolean lies(int what, int[] box, int[] window) {
        boolean some = false;
        boolean allOfBox = true;
        boolean allOfWindow = true;
        for (int x = -2; x < 20; x++) {
            for (int y = -2; y < 20; y++) {
                boolean inBox = x >= box[0] && x <= box[2] && y >= box[1] && y <= box[3];
                boolean inWindow = x >= window[0] && x <= window[2] && y >= window[1] && y <= window[3];
                some |= inBox && inWindow;
                allOfBox &= !inBox || inWindow;
                allOfWindow &= !inWindow || inBox;
            }
        }
        return what == 0 ? some : what == 1 ? allOfBox : allOfWindow;
    }
}
