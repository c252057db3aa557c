import java.util.List;
import java.util.function.ToIntFunction;

/** A law's value straight from its tokens, which are known to be without a fault. */
final class PlainLaw {
    private final List<String> tokens;
    private final ToIntFunction<String> values;
    private int at = 0;

    PlainLaw(List<String> tokens, ToIntFunction<String> values) {
        this.tokens = tokens;
        this.values = values;
    }

    int value() {
        return or();
    }

    private boolean next(String token) {
        if (at < tokens.size() && tokens.get(at).equals(token)) {
            at++;
            return true;
        }
        return false;
    }

    private static int truth(boolean holds) {
        return holds ? 1 : 0;
    }

    private int or() {
        int value = and();
        while (next("or")) {
            int right = and();
            value = truth(value != 0 || right != 0);
        }
        return value;
    }

    private int and() {
        int value = not();
        while (next("and")) {
            int right = not();
            value = truth(value != 0 && right != 0);
        }
        return value;
    }

    private int not() {
        if (next("not")) {
            return truth(not() == 0);
        }
        int value = sum();
        if (next("<")) {
            return truth(value < sum());
        }
        return next("=") ? truth(value == sum()) : value;
    }

    private int sum() {
        int value = product();
        while (true) {
            if (next("+")) {
                value += product();
            } else if (next("-")) {
                value -= product();
            } else {
                return value;
            }
        }
    }

    private int product() {
        int value = part();
        while (true) {
            if (next("*")) {
                value *= part();
            } else if (next("/")) {
                int by = part();
                value = by == 0 ? 0 : value / by;
            } else {
                return value;
            }
        }
    }

    private int part() {
        if (next("(")) {
            int value = or();
            next(")");
            return value;
        }
        String token = tokens.get(at++);
        return Character.isDigit(token.charAt(0)) ? Integer.parseInt(token) : values.applyAsInt(token);
    }
}
