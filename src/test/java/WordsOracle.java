import java.math.BigDecimal;
import java.math.BigInteger;
import java.math.RoundingMode;
import java.util.ArrayList;
import java.util.List;

/** Reads words as the document tells it, by descent: the plan and points, or what is wrong and where. */
final class WordsOracle {
    final List<Integer> plan = new ArrayList<>();
    final List<Integer> ordinates = new ArrayList<>();
    int fault;
    int place;

    private final String text;
    private final int digits;
    private int at;

    private static final class Wrong extends RuntimeException {
        private static final long serialVersionUID = 1L;
        private final int code;
        private final int place;

        Wrong(int code, int place) {
            this.code = code;
            this.place = place;
        }
    }

    WordsOracle(String text, int digits) {
        this.text = text;
        this.digits = digits;
        try {
            shape(0);
            step();
            if (at < text.length()) {
                throw new Wrong(8, at);
            }
        } catch (Wrong wrong) {
            fault = wrong.code;
            place = wrong.place;
        }
    }

    private void step() {
        while (at < text.length() && " \t\n\r".indexOf(text.charAt(at)) >= 0) {
            at++;
        }
    }

    private char here() {
        return at < text.length() ? text.charAt(at) : 0;
    }

    private boolean isEnd() {
        return at >= text.length();
    }

    private static boolean isLetter(char c) {
        return c >= 'A' && c <= 'Z' || c >= 'a' && c <= 'z';
    }

    private static boolean isDigit(char c) {
        return c >= '0' && c <= '9';
    }

    private Wrong unexpected() {
        char c = here();
        boolean strange = !isEnd() && !isLetter(c) && !isDigit(c) && "+-.(),".indexOf(c) < 0;
        return new Wrong(strange ? 1 : 3, at);
    }

    /** A word that could stand here; null when no word stands here. */
    private String word() {
        step();
        int end = at;
        while (end < text.length() && isLetter(text.charAt(end))) {
            end++;
        }
        return end == at ? null : text.substring(at, end).toUpperCase();
    }

    private void room(boolean is) {
        step();
        if (!is) {
            throw new Wrong(7, at);
        }
    }

    private int counter(int kind) {
        room(plan.size() <= 2046);
        plan.add(kind);
        plan.add(0);
        return plan.size() - 1;
    }

    private void add(int counter) {
        plan.set(counter, plan.get(counter) + 1);
    }

    private void shape(int open) {
        String word = word();
        if (word == null) {
            throw unexpected();
        }
        int kind = 0;
        for (int i = 1; i <= 7; i++) {
            if (Told.WORDS[i].equals(word)) {
                kind = i;
            }
        }
        if (kind == 0) {
            throw new Wrong(2, at);
        }
        if (kind == 7 && open >= 50) {
            throw new Wrong(6, at);
        }
        at += word.length();
        int counter = counter(kind);
        if (!empty()) {
            inside(kind, counter, open);
        }
    }

    private boolean empty() {
        step();
        String word = word();
        if (word == null) {
            return false;
        }
        if (!word.equals("EMPTY")) {
            throw new Wrong(2, at);
        }
        at += 5;
        return true;
    }

    private void take(char c) {
        step();
        if (isEnd() || here() != c) {
            throw unexpected();
        }
        at++;
    }

    private void inside(int kind, int counter, int open) {
        take('(');
        boolean more = true;
        while (more) {
            add(counter);
            switch (kind) {
                case 1:
                case 2:
                    coordinate();
                    break;
                case 3:
                    room(plan.size() < 2048);
                    plan.add(0);
                    inside(2, plan.size() - 1, open);
                    break;
                case 7:
                    shape(open + 1);
                    break;
                default:
                    part(kind - 3, open);
                    break;
            }
            step();
            more = kind != 1 && !isEnd() && here() == ',';
            if (more) {
                at++;
            }
        }
        take(')');
    }

    private void part(int kind, int open) {
        int counter = counter(kind);
        if (empty()) {
            return;
        }
        if (kind == 1 && !isEnd() && (isDigit(here()) || "+-.".indexOf(here()) >= 0)) {
            add(counter);
            coordinate();
        } else {
            inside(kind, counter, open);
        }
    }

    private void coordinate() {
        room(ordinates.size() < 4096);
        int x = number();
        ordinates.add(x);
        ordinates.add(number());
    }

    private int number() {
        step();
        int begin = at;
        if (isEnd() || !isDigit(here()) && "+-.".indexOf(here()) < 0) {
            throw unexpected();
        }
        StringBuilder mantissa = new StringBuilder();
        if (here() == '-' || here() == '+') {
            mantissa.append(here());
            at++;
        }
        int scale = 0;
        int count = 0;
        boolean dot = false;
        while (!isEnd() && (isDigit(here()) || here() == '.' && !dot)) {
            if (here() == '.') {
                dot = true;
            } else {
                mantissa.append(here());
                count++;
                scale += dot ? 1 : 0;
            }
            at++;
        }
        boolean good = count > 0;
        BigInteger exponent = BigInteger.ZERO;
        if (good && (here() == 'e' || here() == 'E')) {
            at++;
            StringBuilder power = new StringBuilder();
            if (!isEnd() && (here() == '-' || here() == '+')) {
                power.append(here());
                at++;
            }
            int size = 0;
            while (!isEnd() && isDigit(here())) {
                power.append(here());
                at++;
                size++;
            }
            good = size > 0;
            exponent = good ? new BigInteger(power.toString()) : exponent;
        }
        boolean ends = isEnd() || !isLetter(here()) && !isDigit(here()) && "+-.".indexOf(here()) < 0;
        if (!good || !ends) {
            throw new Wrong(4, begin);
        }
        BigInteger value = new BigInteger(mantissa.toString());
        return units(value, BigInteger.valueOf(digits - scale).add(exponent), begin);
    }

    private static int units(BigInteger value, BigInteger power, int begin) {
        if (value.signum() == 0) {
            return 0;
        }
        int length = value.abs().toString().length();
        BigInteger places = power.add(BigInteger.valueOf(length));
        if (places.compareTo(BigInteger.valueOf(12)) > 0) {
            throw new Wrong(5, begin);
        }
        if (places.signum() < 0) {
            return 0;
        }
        BigDecimal rounded = new BigDecimal(value, -power.intValueExact()).setScale(0, RoundingMode.HALF_EVEN);
        if (rounded.abs().compareTo(new BigDecimal(1000000000)) > 0) {
            throw new Wrong(5, begin);
        }
        return rounded.intValueExact();
    }
}
