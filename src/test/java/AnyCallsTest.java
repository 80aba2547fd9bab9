import java.lang.reflect.InvocationTargetException;
import java.lang.reflect.Method;
import java.lang.reflect.Modifier;
import java.util.ArrayList;
import java.util.Arrays;
import java.util.Comparator;
import java.util.List;

/**
 * Any calls in any order with any arguments: none throws anything but what its face tells, itself and not the machine,
 * and one that throws changes nothing but what the document says.
 */
public final class AnyCallsTest {
    private static final int[] ODD = {0, 1, 2, 3, 31, 32, -1, 7, 500000000, 500000001, -500000000, 1000000000,
        1000000001, -1000000000, Integer.MAX_VALUE, Integer.MIN_VALUE};

    public static void main(String[] args) throws IllegalAccessException {
        List<Method> methods = new ArrayList<>();
        for (Method method : ShapeWorkshop.class.getDeclaredMethods()) {
            if (Modifier.isPublic(method.getModifiers())) {
                methods.add(method);
            }
        }
        methods.sort(Comparator.comparing(Method::getName));
        int[] rounds = Bench.rounds(args, 300);
        for (int round = rounds[0]; round <= rounds[1]; round++) {
            run(round, new Bench.Dice(round + 2718L), methods);
        }
        Bench.close("AnyCallsTest");
    }

    private static void run(int round, Bench.Dice dice, List<Method> methods) throws IllegalAccessException {
        ShapeWorkshop shop = new ShapeWorkshop(dice.below(8) - 4);
        int calls = 0;
        while (calls < 512) {
            if (dice.below(12) == 0) {
                calls += readShape(shop, dice);
                continue;
            }
            Method method = methods.get(dice.below(methods.size()));
            Object[] arguments = arguments(dice, method);
            String before = state(shop);
            String name = "round " + round + " " + method.getName() + Arrays.toString(arguments);
            calls++;
            try {
                method.invoke(shop, arguments);
                Bench.due(name, "good", "good");
            } catch (InvocationTargetException e) {
                Class<?> type = e.getCause().getClass();
                Bench.holds(name + " throws " + e.getCause(),
                        Arrays.asList(method.getExceptionTypes()).contains(type));
                if (!method.getName().startsWith("read")) {
                    Bench.due(name + " changes", state(shop), before);
                }
            }
            Bench.due(name + " keeps all in order", orderly(shop), "");
        }
    }

    private static int readShape(ShapeWorkshop shop, Bench.Dice dice) {
        int size = 1 + dice.below(9);
        Shapes.Spread spread = Shapes.Spread.thrown(dice, size, dice.below(2) == 0 ? 1000000000 : 500000000);
        Told told = Shapes.any(dice, spread, size);
        String text = told.words();
        if (dice.below(6) == 0) {
            text = text.substring(0, dice.below(text.length()));
        }
        text = text.length() > 2000 ? "POINT (1 1)" : text;
        Bench.read(shop, dice.below(8), text);
        return text.length() / 20 + 3;
    }

    private static Object[] arguments(Bench.Dice dice, Method method) {
        Class<?>[] types = method.getParameterTypes();
        Object[] arguments = new Object[types.length];
        for (int i = 0; i < types.length; i++) {
            if (types[i] == long.class) {
                arguments[i] = dice.below(3) == 0 ? dice.next() : Double.doubleToRawLongBits(dice.below(9) - 4);
            } else {
                arguments[i] = dice.below(10) == 0 ? ODD[dice.below(ODD.length)] : dice.below(8);
            }
        }
        return arguments;
    }

    /** All that calls tell, but for the tape's bytes and the points of the signs. */
    private static String state(ShapeWorkshop shop) {
        StringBuilder text = new StringBuilder();
        for (int what = 2; what < 6; what++) {
            text.append(shop.count(0, what)).append(' ');
        }
        for (int k = 0; k < shop.count(0, 5); k++) {
            text.append(shop.found(k)).append(' ');
        }
        for (int what = 0; what < 7; what++) {
            text.append(shop.place(what)).append(' ');
        }
        text.append(shop.fault(0)).append(' ').append(shop.fault(1));
        for (int i = 0; i < shop.count(0, 3); i += 7) {
            text.append(' ').append(shop.byteAt(i));
        }
        for (int slot = 0; slot < 32; slot++) {
            text.append('/').append(shop.count(slot, 0) == 0 ? "" : Told.of(shop, slot).words());
        }
        return text.toString();
    }

    /** Plans that are whole, and as many points as they tell. */
    private static String orderly(ShapeWorkshop shop) {
        for (int slot = 0; slot < 32; slot++) {
            if (shop.count(slot, 0) > 0) {
                Told told = Told.of(shop, slot);
                if (told.plan().size() != shop.count(slot, 0) || told.pointCount() != shop.count(slot, 1)) {
                    return "slot " + slot;
                }
            } else if (shop.count(slot, 1) != 0) {
                return "points without a plan in " + slot;
            }
        }
        return "";
    }
}
