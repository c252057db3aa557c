import java.util.ArrayList;
import java.util.List;
import java.util.regex.Matcher;
import java.util.regex.Pattern;

/** Reads a coast by regular expressions and faults that are thrown. */
final class PlainReader {
    private static final Pattern TOKEN = Pattern.compile("[a-z]+|[0-9]+|[;()+*/<=-]|[^ \n]");

    private final List<String> tokens = new ArrayList<>();
    private final List<Integer> places = new ArrayList<>();
    private final PlainModel.Sea sea = new PlainModel.Sea();
    private int at = 0;
    private boolean fogTold = false;

    PlainReader(String text) {
        Matcher m = TOKEN.matcher(text);
        while (m.find()) {
            tokens.add(m.group());
            places.add(m.start());
        }
        tokens.add("");
        places.add(text.length());
    }

    PlainModel.Sea sea() {
        if (here().equals("sea")) {
            at++;
            sea.w = number(1, 12);
            sea.h = number(1, 12);
            sign(";");
        }
        while (!here().isEmpty()) {
            line();
        }
        sea.force = sea.laws.isEmpty() ? -1 : 0;
        return sea;
    }

    private String here() {
        return tokens.get(at);
    }

    private PlainModel.Fault fault(int kind) {
        return new PlainModel.Fault(kind, places.get(at));
    }

    private void room(int has, int most) {
        if (has >= most) {
            throw fault(2);
        }
        at++;
    }

    private void sign(String sign) {
        if (!here().equals(sign)) {
            throw fault(1);
        }
        at++;
    }

    private int peek(int least, int most) {
        if (!here().matches("[0-9]+")) {
            throw fault(1);
        }
        if (here().length() > 4 || Integer.parseInt(here()) < least || Integer.parseInt(here()) > most) {
            throw fault(2);
        }
        return Integer.parseInt(here());
    }

    private int number(int least, int most) {
        int number = peek(least, most);
        at++;
        return number;
    }

    private String word(String letters, int most) {
        if (!here().matches("[a-z]+")) {
            throw fault(1);
        }
        if (!here().matches("[" + letters + "]+")) {
            throw fault(3);
        }
        if (here().length() > most) {
            throw fault(2);
        }
        return tokens.get(at++);
    }

    private void line() {
        switch (here()) {
            case "cape": cape(); break;
            case "light": light(); break;
            case "ship": ship(); break;
            case "fog": fog(); break;
            case "yields": law(); break;
            default: throw fault(1);
        }
        sign(";");
    }

    private boolean lightAt(int x, int y) {
        return sea.lights.stream().anyMatch(l -> l.x == x && l.y == y);
    }

    private boolean shipAt(int x, int y) {
        return sea.ships.stream().anyMatch(s -> s.x == x && s.y == y);
    }

    private void cape() {
        room(sea.capes.size(), 12);
        int x = number(0, sea.w - 1);
        int y = peek(0, sea.h - 1);
        if (sea.cape(x, y) || lightAt(x, y) || shipAt(x, y)) {
            throw fault(4);
        }
        at++;
        sea.capes.add(new int[] {x, y});
    }

    private void light() {
        room(sea.lights.size(), 5);
        PlainModel.Light l = new PlainModel.Light();
        l.x = number(0, sea.w - 1);
        l.y = peek(0, sea.h - 1);
        if (sea.cape(l.x, l.y) || lightAt(l.x, l.y)) {
            throw fault(4);
        }
        at++;
        l.reach = number(1, 12);
        l.oil = number(0, 200);
        l.rank = number(0, 9);
        l.way = word("neswo", 12);
        l.sign = word("lk", 6);
        sea.lights.add(l);
    }

    private void ship() {
        room(sea.ships.size(), 8);
        PlainModel.Ship s = new PlainModel.Ship();
        s.x = number(0, sea.w - 1);
        s.y = peek(0, sea.h - 1);
        if (sea.cape(s.x, s.y) || shipAt(s.x, s.y)) {
            throw fault(4);
        }
        at++;
        s.want = number(0, 12);
        sea.ships.add(s);
    }

    private void fog() {
        if (fogTold) {
            throw fault(5);
        }
        fogTold = true;
        at++;
        sea.fogs.add(number(0, 9));
        while (here().matches("[0-9]+")) {
            if (sea.fogs.size() == 8) {
                throw fault(2);
            }
            sea.fogs.add(number(0, 9));
        }
    }

    private void law() {
        room(sea.laws.size(), 3);
        int from = at;
        expr(0);
        sea.laws.add(new ArrayList<>(tokens.subList(from, at)));
    }

    private void expr(int within) {
        if (within == 6 && here().matches("[a-z]+|[0-9]+|\\(")) {
            throw fault(2);
        }
        do {
            test(within);
        } while (passed("or", "and"));
    }

    private boolean passed(String one, String other) {
        if (here().equals(one) || here().equals(other)) {
            at++;
            return true;
        }
        return false;
    }

    private void test(int within) {
        for (int nots = 1; here().equals("not"); nots++) {
            if (nots == 7) {
                throw fault(2);
            }
            at++;
        }
        row(within);
        if (passed("<", "=")) {
            row(within);
        }
    }

    private void row(int within) {
        do {
            part(within);
        } while (passed("+", "-") || passed("*", "/"));
    }

    private void part(int within) {
        if (here().equals("(")) {
            at++;
            expr(within + 1);
            sign(")");
        } else if (here().matches("[a-z]+")) {
            if (!here().matches("rank|oil|light|hour|reach|lit")) {
                throw fault(3);
            }
            at++;
        } else {
            number(0, 9999);
        }
    }
}
