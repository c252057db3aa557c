import java.util.NoSuchElementException;
import java.util.Random;

/** Runs of drawn calls on drawn coasts, each answer beside the plain model's; drawn texts with faults too. */
final class ModelTest {
    private static final String[] SCRAPS = {"sea", "cape", "light", "ship", "fog", "yields", ";", "(", ")", "+", "-", "*",
        "/", "<", "=", "0", "1", "7", "12", "13", "200", "201", "9999", "12345", "00001", "rank", "oil", "hour", "reach",
        "lit", "not", "and", "or", "n", "e", "lk", "l", "eswno", "lllllll", "nnnnnnnnnnnnn", "x", "A", "\u00e9", "!", "\t",
        "not not not not not not", "not not not not not not not", "((((((", "))))))", "fog 1", "\n", ">", "}"};

    private final Random random;
    private final Due due = new Due("ModelTest");
    private SailingLights x;
    private PlainModel y;
    private StringBuilder told;

    private ModelTest(long seed) {
        random = new Random(seed);
    }

    public static void main(String[] args) {
        int runs = args.length > 0 ? Integer.parseInt(args[0]) : 150;
        int texts = args.length > 1 ? Integer.parseInt(args[1]) : 20000;
        long seed = args.length > 2 ? Long.parseLong(args[2]) : 1;
        ModelTest test = new ModelTest(seed);
        test.fullest();
        for (int i = 0; i < runs; i++) {
            test.run();
        }
        for (int i = 0; i < texts; i++) {
            test.text();
        }
        test.due.end();
    }

    private int up(int n) {
        return random.nextInt(n);
    }

    private boolean rarely(int n) {
        return random.nextInt(n) == 0;
    }

    private void begin() {
        x = new SailingLights();
        y = new PlainModel();
        told = new StringBuilder();
    }

    /** As much of all as there may be, asked at the ends of all rows. */
    private void fullest() {
        StringBuilder s = new StringBuilder("sea 12 12;");
        for (int i = 0; i < 12; i++) {
            s.append("cape ").append(i).append(' ').append(i * 5 % 11).append(';');
        }
        for (int i = 0; i < 5; i++) {
            s.append("light ").append(11 - i).append(" 11 12 200 ").append(i).append(" neswneswwnow lklkl").append("lk".charAt(i % 2))
                .append(';');
        }
        for (int i = 0; i < 8; i++) {
            s.append("ship ").append(i).append(" 11 ").append(i + 5).append(';');
        }
        s.append("fog 0 1 2 3 4 5 6 7;yields (((((oil<100 or not lit)))))*rank;yields light;yields 0-light*hour;");
        begin();
        readText(s.toString());
        for (int i = 0; i < 50; i++) {
            int oil = 200 - i;
            compare("fill 4 " + oil, () -> x.fill(4, oil), () -> y.fill(4, oil));
        }
        compare("moor", () -> x.moor(7, 143), () -> y.moor(7, 143));
        compare("push", () -> x.push(4, 141), () -> y.push(4, 141));
        for (int i = 0; i < 9; i++) {
            boolean was = i % 2 == 0;
            compare("log", () -> x.log(7, 239, 4, was), () -> y.log(7, 239, 4, was));
        }
        askOften(4, 7, 239, 9, 2);
        askOften(0, 0, 0, 0, 0);
        askOften(3, 6, 23, 5, 1);
    }

    private void askOften(int light, int ship, int hour, int night, int law) {
        compare("obey", () -> x.obey(law) ? 1 : 0, () -> y.obey(law));
        for (int what = 0; what < 4; what++) {
            int asked = what;
            compare("ship", () -> x.ship(ship, asked), () -> y.ship(ship, asked));
            compare("journey", () -> x.journey(light, asked), () -> y.journey(light, asked));
            compare("begun", () -> x.begun(light, asked), () -> y.begun(light, asked));
            compare("signs", () -> x.signs(night, asked), () -> y.signs(night, asked));
            compare("start", () -> x.start(light, asked), () -> y.start(light, asked));
            compare("mooring", () -> x.mooring(ship, night, asked), () -> y.mooring(ship, night, asked));
            compare("years", () -> x.years(hour, 40, asked), () -> y.years(hour, 40, asked));
            compare("game", () -> x.game(light, 1, night, asked, 0), () -> y.game(light, 1, night, asked, 0));
        }
        compare("seen", () -> x.seen(ship, hour), () -> y.seen(ship, hour));
        compare("watch", () -> x.watch(ship, night), () -> y.watch(ship, night));
        compare("content", () -> x.content(night), () -> y.content(night));
        compare("met", () -> x.met(light, 1), () -> y.met(light, 1));
        compare("lamps", () -> x.lamps(night), () -> y.lamps(night));
        compare("who", () -> x.who(531440, 12), () -> y.who(531440, 12));
        compare("visits", () -> x.visits(hour), () -> y.visits(hour));
        compare("visit", () -> x.visit(light, hour), () -> y.visit(light, hour));
        compare("father", () -> x.father(ship, hour), () -> y.father(ship, hour));
        compare("brightest", () -> x.brightest(), () -> y.brightest());
        compare("alone", () -> x.alone(night), () -> y.alone(night));
        compare("best", () -> x.best(), () -> y.best());
        compare("sparing", () -> x.sparing(light), () -> y.sparing(light));
        whereabouts();
    }

    /** Where all are, which shows what laws give. */
    private void whereabouts() {
        for (int law = -1; law < y.count(5); law++) {
            int asked = law;
            compare("quarrels " + law, () -> x.quarrels(asked), () -> y.quarrels(asked));
        }
        for (int light = 0; light < y.count(3); light++) {
            int asked = light;
            for (int hour = 13; hour < 240; hour += 113) {
                int then = hour;
                compare("where " + light + " " + hour, () -> x.where(asked, then), () -> y.where(asked, then));
            }
        }
    }

    private void run() {
        begin();
        int calls = 60;
        for (int i = 0; i < calls; i++) {
            if (i == 1 || rarely(60)) {
                readText(drawnCoast());
                whereabouts();
            }
            if (rarely(150)) {
                readText(spoilt(drawnCoast()));
            }
            call(up(43));
        }
    }

    private void text() {
        begin();
        readText(rarely(3) ? drawnCoast() : spoilt(drawnCoast()));
        for (int what = 0; what < 13; what++) {
            int asked = what;
            compare("count " + what, () -> x.count(asked), () -> y.count(asked));
        }
    }

    // ---- texts

    private String drawnCoast() {
        StringBuilder s = new StringBuilder();
        int w = 8;
        int h = 8;
        if (!rarely(8)) {
            // Lights get into each other's way in a small sea alone.
            w = 1 + up(rarely(4) ? 12 : 4);
            h = 1 + up(rarely(4) ? 12 : 4);
            s.append("sea ").append(w).append(' ').append(h).append(';');
        }
        int[] marks = new int[w * h];
        int capes = rarely(5) ? 12 : up(4);
        for (int i = 0; i < capes; i++) {
            place(s, "cape", w, h, marks, 7, 1, "");
        }
        int lights = rarely(2) ? 5 : up(6);
        for (int i = 0; i < lights; i++) {
            String rest = " " + (1 + up(12)) + " " + oil() + " " + up(10) + " " + letters("neswo", 12) + " " + letters("lk", 6);
            place(s, "light", w, h, marks, 3, 2, rest);
        }
        int ships = rarely(3) ? 8 : up(9);
        for (int i = 0; i < ships; i++) {
            place(s, "ship", w, h, marks, 5, 4, " " + up(13));
        }
        if (!rarely(3)) {
            s.append("fog");
            int many = 1 + up(8);
            for (int i = 0; i < many; i++) {
                s.append(' ').append(rarely(3) ? up(10) : up(4));
            }
            s.append(';');
        }
        int laws = up(4);
        for (int i = 0; i < laws; i++) {
            String law = "yields " + expr(up(4)) + ";";
            if (s.length() + law.length() <= 700) {
                s.append(law);
            }
        }
        return s.toString();
    }

    private int oil() {
        return rarely(3) ? up(201) : up(40);
    }

    private void place(StringBuilder s, String word, int w, int h, int[] marks, int barred, int mark, String rest) {
        int cell = up(w * h);
        if ((marks[cell] & barred) == 0) {
            marks[cell] |= mark;
            s.append(word).append(' ').append(cell % w).append(' ').append(cell / w).append(rest).append(';');
        }
    }

    private String letters(String of, int most) {
        StringBuilder s = new StringBuilder();
        int many = 1 + up(rarely(2) ? most : 3);
        for (int i = 0; i < many; i++) {
            s.append(of.charAt(up(of.length())));
        }
        return s.toString();
    }

    private String expr(int depth) {
        switch (depth <= 0 ? up(2) : 2 + up(7)) {
            case 0: return "" + (rarely(5) ? up(10000) : up(20));
            case 1: return new String[] {"rank", "oil", "light", "hour", "reach", "lit"}[up(6)];
            case 2: return expr(depth - 1) + " or " + expr(depth - 1);
            case 3: return expr(depth - 1) + " and " + expr(depth - 1);
            case 4: return "not " + expr(depth - 1);
            case 5: return "(" + expr(depth - 1) + ")";
            case 6: return "(" + expr(depth - 1) + ")" + "<=".charAt(up(2)) + "(" + expr(depth - 1) + ")";
            case 7: return sum(depth);
            default: return "(" + expr(depth - 1) + ")" + "+-*/".charAt(up(4)) + "(" + expr(depth - 1) + ")";
        }
    }

    private String sum(int depth) {
        StringBuilder s = new StringBuilder(expr(0));
        for (int i = 0; i < depth + 1; i++) {
            s.append("+-*/".charAt(up(4))).append(expr(0));
        }
        return s.toString();
    }

    private String spoilt(String text) {
        StringBuilder s = new StringBuilder(text);
        int times = 1 + up(3);
        for (int i = 0; i < times; i++) {
            int at = up(s.length() + 1);
            String scrap = SCRAPS[up(SCRAPS.length)];
            switch (up(5)) {
                case 0: s.insert(at, scrap); break;
                case 1: s.insert(at, " " + scrap + " "); break;
                case 2: s.delete(at, Math.min(s.length(), at + 1 + up(4))); break;
                case 3: s.setLength(at); break;
                default: swapToken(s, scrap); break;
            }
        }
        return s.substring(0, Math.min(700, s.length()));
    }

    private void swapToken(StringBuilder s, String scrap) {
        String[] parts = s.toString().split("(?<=[; ])|(?=[; ])");
        if (parts.length > 0) {
            parts[up(parts.length)] = scrap;
            s.setLength(0);
            s.append(String.join("", parts));
        }
    }

    private void readText(String text) {
        for (int from = 0; from < text.length(); from += 20) {
            int[] f = new int[5];
            for (int i = 0; i < 20; i++) {
                f[i / 4] = f[i / 4] << 8 | (from + i < text.length() ? text.charAt(from + i) : ' ');
            }
            compare("feed", () -> x.feed(f[0], f[1], f[2], f[3], f[4]), () -> y.feed(f));
        }
        int n = Math.min(text.length(), y.count(9));
        told.append("\n  '").append(text).append("'");
        compare("coast " + n, () -> x.coast(n), () -> y.coast(n));
        compare("fault", () -> x.fault(), () -> y.fault());
    }

    // ---- calls

    private void compare(String call, Due.Call one, Due.Call other) {
        String got = outcome(one);
        String want = outcome(other);
        told.append("\n  ").append(call).append(" -> ").append(want);
        due.is(call + " got " + got + " want " + want + (got.equals(want) ? "" : told.toString()),
            got.equals(want) ? 1 : 0, 1);
    }

    private static String outcome(Due.Call call) {
        try {
            return "" + call.answer();
        } catch (NoSuchElementException e) {
            return "missing";
        } catch (IllegalArgumentException e) {
            return "unfit";
        }
    }

    private int near(int n) {
        return rarely(25) ? up(n + 8) - 4 : up(Math.max(n, 1));
    }

    private void call(int which) {
        int light = near(y.count(3));
        int other = near(y.count(3));
        int ship = near(y.count(4));
        int hour = near(240);
        int night = near(10);
        int law = up(y.count(5) + 2) - (rarely(20) ? 2 : 1);
        int cell = near(y.count(0) * y.count(1));
        boolean yes = random.nextBoolean();
        int two = near(2);
        int three = near(3);
        switch (which) {
            case 0: compare("count", () -> x.count(cell), () -> y.count(cell)); break;
            case 1: {
                int what = near(7);
                compare("light " + light + " " + what, () -> x.light(light, what), () -> y.light(light, what));
                break;
            }
            case 2: {
                int what = near(4);
                compare("ship " + ship + " " + what, () -> x.ship(ship, what), () -> y.ship(ship, what));
                break;
            }
            case 3: compare("where " + light + " " + hour, () -> x.where(light, hour), () -> y.where(light, hour)); break;
            case 4:
                compare("lamp " + light + " " + hour + " " + two,
                    () -> x.lamp(light, hour, two), () -> y.lamp(light, hour, two));
                break;
            case 5: compare("seen " + ship + " " + hour, () -> x.seen(ship, hour), () -> y.seen(ship, hour)); break;
            case 6: compare("watch " + ship + " " + night, () -> x.watch(ship, night), () -> y.watch(ship, night)); break;
            case 7: compare("content " + night, () -> x.content(night), () -> y.content(night)); break;
            case 8: compare("met " + light + " " + other, () -> x.met(light, other), () -> y.met(light, other)); break;
            case 9: {
                int oil = rarely(8) ? up(300) - 50 : oil();
                compare("fill " + light + " " + oil, () -> x.fill(light, oil), () -> y.fill(light, oil));
                break;
            }
            case 10: compare("moor " + ship + " " + cell, () -> x.moor(ship, cell), () -> y.moor(ship, cell)); break;
            case 11: compare("push " + light + " " + cell, () -> x.push(light, cell), () -> y.push(light, cell)); break;
            case 12: compare("obey " + law, () -> x.obey(law) ? 1 : 0, () -> y.obey(law)); break;
            case 13: {
                int want = near(13);
                compare("want " + ship + " " + want, () -> x.want(ship, want), () -> y.want(ship, want));
                break;
            }
            case 14: compare("undo", () -> x.undo(), () -> y.undo()); break;
            case 15: compare("lamps " + night, () -> x.lamps(night), () -> y.lamps(night)); break;
            case 16: compare("signs " + night + " " + two, () -> x.signs(night, two), () -> y.signs(night, two)); break;
            case 17: {
                int many = near(13);
                int row = up((int) Math.pow(3, Math.max(0, Math.min(many, 12))) + (rarely(10) ? 9 : 0)) - (rarely(30) ? 2 : 0);
                compare("who " + row + " " + many, () -> x.who(row, many), () -> y.who(row, many));
                break;
            }
            case 18: compare("visits " + hour, () -> x.visits(hour), () -> y.visits(hour)); break;
            case 19: compare("visit " + light + " " + hour, () -> x.visit(light, hour), () -> y.visit(light, hour)); break;
            case 20: compare("compared " + law, () -> x.compared(law), () -> y.compared(law)); break;
            case 21: compare("best", () -> x.best(), () -> y.best()); break;
            case 22:
                compare("mooring " + ship + " " + night + " " + two,
                    () -> x.mooring(ship, night, two), () -> y.mooring(ship, night, two));
                break;
            default: more(which, light, other, ship, law, yes); break;
        }
    }

    private void more(int which, int light, int other, int ship, int law, boolean yes) {
        int hour = rarely(2) ? near(240) : 24 * up(10) + 12 + up(12);
        int night = near(10);
        int two = near(2);
        int three = near(3);
        switch (which) {
            case 23:
            case 24:
            case 25:
                compare("log " + ship + " " + hour + " " + light + " " + yes,
                    () -> x.log(ship, hour, light, yes), () -> y.log(ship, hour, light, yes));
                break;
            case 26:
                if (rarely(4)) {
                    told.append("\n  forget");
                    x.forget();
                    y.forget();
                }
                break;
            case 27: compare("falsely", () -> x.falsely(), () -> y.falsely()); break;
            case 28: compare("begun " + light + " " + three, () -> x.begun(light, three), () -> y.begun(light, three)); break;
            case 29:
            case 30: {
                int much = rarely(12) ? up(120) - 10 : rarely(3) ? 0 : up(20);
                compare("game " + light + " " + other + " " + night + " " + much + " " + two,
                    () -> x.game(light, other, night, much, two), () -> y.game(light, other, night, much, two));
                break;
            }
            case 31:
            case 32: {
                int seed = random.nextInt();
                int n = rarely(10) ? up(60) - 10 : up(41);
                compare("years " + seed + " " + n + " " + three, () -> x.years(seed, n, three), () -> y.years(seed, n, three));
                break;
            }
            case 33: compare("father " + ship + " " + hour, () -> x.father(ship, hour), () -> y.father(ship, hour)); break;
            case 34:
                compare("journey " + light + " " + three, () -> x.journey(light, three), () -> y.journey(light, three));
                break;
            case 35: compare("brightest", () -> x.brightest(), () -> y.brightest()); break;
            case 36: compare("sparing " + light, () -> x.sparing(light), () -> y.sparing(light)); break;
            case 37: compare("start " + light + " " + two, () -> x.start(light, two), () -> y.start(light, two)); break;
            case 38: compare("alone " + night, () -> x.alone(night), () -> y.alone(night)); break;
            case 39: compare("quarrels " + law, () -> x.quarrels(law), () -> y.quarrels(law)); break;
            case 40:
                told.append("\n  image");
                x.image();
                y.image();
                break;
            case 41: compare("restore", () -> x.restore() ? 1 : 0, () -> y.restore()); break;
            default:
                for (int i = 0; i < 45 && rarely(3) || i < 2; i++) {
                    compare("undo", () -> x.undo(), () -> y.undo());
                }
                break;
        }
    }
}
