import java.math.BigDecimal;
import java.util.Arrays;

/** Thrown texts, right ones and spoilt ones, compared with an oracle that reads by descent. */
public final class WordsOracleTest {
    private static final String SIGNS = " \t\n\r(),.+-eE0159aZ#\u00e9\0;EMPTYPOINT";
    private static final int[] FAULTS = new int[9];

    public static void main(String[] args) {
        int[] rounds = Bench.rounds(args, 30000);
        for (int round = rounds[0]; round <= rounds[1]; round++) {
            Bench.Dice dice = new Bench.Dice(round + 31337L);
            String text = thrown(dice);
            int spoils = dice.below(3);
            for (int i = 0; i < spoils; i++) {
                text = spoil(dice, text);
            }
            compare(round, text.length() > 4000 ? text.substring(0, 4000) : text, dice.below(4));
        }
        System.out.println("  faults " + Arrays.toString(FAULTS));
        Bench.close("WordsOracleTest");
    }

    private static ShapeWorkshop[] shops = new ShapeWorkshop[4];
    private static int[] calls = new int[4];

    /** Objects are used again while they have calls left. */
    private static ShapeWorkshop shop(int digits, int more) {
        calls[digits] += more;
        if (shops[digits] == null || calls[digits] > 500) {
            shops[digits] = new ShapeWorkshop(digits);
            calls[digits] = more;
        }
        return shops[digits];
    }

    private static void compare(int round, String text, int digits) {
        WordsOracle due = new WordsOracle(text, digits);
        FAULTS[due.fault]++;
        int feeds = text.length() / 20 + 2;
        ShapeWorkshop shop = shop(digits, feeds + 8 + 3 * (due.plan.size() + due.ordinates.size()) % 100);
        String name = "round " + round + " digits " + digits + " text " + text;
        String got = Bench.read(shop, 3, text);
        if (due.fault != 0) {
            Bench.due(name, got, due.fault + "@" + due.place);
            Bench.due(name + " leaves", shop.count(3, 0) + shop.count(3, 1), 0);
            return;
        }
        Bench.due(name, got, Integer.toString(due.plan.get(0)));
        Bench.due(name + " fault", shop.fault(0) + shop.fault(1), 0);
        Bench.due(name + " plan", shop.count(3, 0), due.plan.size());
        Bench.due(name + " points", 2 * shop.count(3, 1), due.ordinates.size());
        for (int i = 0; i < due.plan.size() && i < 15; i++) {
            Bench.due(name + " plan " + i, shop.plan(3, i), (int) due.plan.get(i));
        }
        for (int i = 0; i < due.ordinates.size() && i < 30; i++) {
            Bench.due(name + " ordinate " + i, shop.ordinate(3, i / 2, i % 2), (int) due.ordinates.get(i));
        }
    }

    private static String thrown(Bench.Dice dice) {
        StringBuilder text = new StringBuilder();
        shape(dice, text, 0);
        blanks(dice, text, false);
        return text.toString();
    }

    private static void blanks(Bench.Dice dice, StringBuilder text, boolean one) {
        int count = (one ? 1 : 0) + (dice.below(4) == 0 ? dice.below(3) : 0);
        for (int i = 0; i < count; i++) {
            text.append(" \t\n\r".charAt(dice.below(6) > 0 ? 0 : dice.below(4)));
        }
    }

    private static void put(Bench.Dice dice, StringBuilder text, String word) {
        blanks(dice, text, false);
        for (int i = 0; i < word.length(); i++) {
            char c = word.charAt(i);
            text.append(dice.below(6) == 0 ? Character.toLowerCase(c) : c);
        }
    }

    private static void shape(Bench.Dice dice, StringBuilder text, int depth) {
        if (dice.below(400) == 0) {
            for (int i = 0; i < 49 + dice.below(4); i++) {
                text.append("GEOMETRYCOLLECTION(");
            }
            text.append("GEOMETRYCOLLECTION EMPTY");
            return;
        }
        int kind = 1 + dice.below(depth < 4 ? 7 : 6);
        put(dice, text, Told.WORDS[kind]);
        inner(dice, text, kind, depth);
    }

    private static void inner(Bench.Dice dice, StringBuilder text, int kind, int depth) {
        if (dice.below(6) == 0) {
            put(dice, text, "EMPTY");
            return;
        }
        put(dice, text, "(");
        int items = kind == 1 ? 1 : 1 + dice.below(4);
        for (int i = 0; i < items; i++) {
            if (i > 0) {
                put(dice, text, ",");
            }
            item(dice, text, kind, depth);
        }
        put(dice, text, ")");
    }

    private static void item(Bench.Dice dice, StringBuilder text, int kind, int depth) {
        if (kind < 3 || kind == 4 && dice.below(3) == 0) {
            coordinate(dice, text);
        } else if (kind == 3) {
            put(dice, text, "(");
            int points = 1 + dice.below(4);
            for (int i = 0; i < points; i++) {
                if (i > 0) {
                    put(dice, text, ",");
                }
                coordinate(dice, text);
            }
            put(dice, text, ")");
        } else if (kind == 7) {
            shape(dice, text, depth + 1);
        } else {
            inner(dice, text, kind - 3, depth);
        }
    }

    private static void coordinate(Bench.Dice dice, StringBuilder text) {
        blanks(dice, text, false);
        number(dice, text);
        blanks(dice, text, true);
        number(dice, text);
    }

    private static void number(Bench.Dice dice, StringBuilder text) {
        String[] odd = {"1000000000", "-1000000000", "1000000000.5", "1000000000.4999999999", "1000000001", "1e9",
            "1e10", "10e8", "-1E+9", "99999999999999999999", "1e99999999999999999999", "0e99999999999999999999",
            "1e-99999999999999999999", "000000000000000000000000001.5", ".5", "-.5", "1.", "+1.", "2.5", "3.5",
            "-2.5", "0.0005", "0.0015", "1.0005", "1.00050000000000000000000000000001", "25e-1", "0.05e1", "-0",
            "-0.0", "1e+2", "1e-2", "12345e-2", "12350e-2", "12250e-2", "999999.9995", "1000000.0005", "1e5", "1e6",
            "1e7", "1e8", "999999999.5", "999999999.49", "0.00000000000000000001e20", "1.e1", "+.5e+1",
            "1e", "1e+", ".", "+", "-", ".e5", "1.2.3", "1..2", "--1", "1-", "0x1", "1e5.5", "1e5e5", "1,5"};
        int way = dice.below(8);
        if (way == 0) {
            text.append(odd[dice.below(dice.below(4) == 0 ? odd.length : odd.length - 14)]);
        } else if (way < 4) {
            text.append(dice.below(200) - 100);
        } else if (way < 6) {
            text.append(BigDecimal.valueOf(dice.from(-2000000, 2000000), dice.below(6)).toPlainString());
        } else {
            text.append(dice.below(3) == 0 ? "-" : "");
            int digits = 1 + dice.below(12);
            int dot = dice.below(digits + 4);
            for (int i = 0; i < digits; i++) {
                text.append(i == dot ? "." : "").append("05199"
                        .charAt(dice.below(5)));
            }
            if (dice.below(3) == 0) {
                text.append(dice.below(2) == 0 ? "e" : "E").append(dice.below(3) == 0 ? "+" : "")
                        .append(dice.below(4));
            } else if (dice.below(3) == 0) {
                text.append("e-").append(dice.below(12));
            }
        }
    }

    private static String spoil(Bench.Dice dice, String text) {
        int at = dice.below(text.length() + 1);
        char sign = SIGNS.charAt(dice.below(SIGNS.length()));
        switch (dice.below(4)) {
            case 0:
                return text.substring(0, at);
            case 1:
                return text.substring(0, at) + sign + text.substring(at);
            case 2:
                return text.substring(0, at) + (at < text.length() ? text.substring(at + 1) : "");
            default:
                return text.substring(0, at) + sign + (at < text.length() ? text.substring(at + 1) : "");
        }
    }
}
