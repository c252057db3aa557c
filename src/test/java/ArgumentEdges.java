import java.util.function.ToIntFunction;

/** Every call with every argument that may be missing, at both ends of what there is and beyond. */
final class ArgumentEdges {
    private static final int LIGHTS = 3;
    private static final int SHIPS = 2;
    private static final int LAWS = 2;
    private static final String COAST = "sea 9 7;cape 8 6;light 0 0 5 100 3 e l;light 5 3 4 30 7 o k;light 2 2 9 200 1 n kl;"
        + "ship 2 0 3;ship 5 1 12;fog 0 1;yields rank;yields 0-rank;";

    private final Due due;
    private SailingLights x;

    private ArgumentEdges(Due due) {
        this.due = due;
    }

    static void run(Due due) {
        ArgumentEdges edges = new ArgumentEdges(due);
        edges.asking();
        edges.acting();
        edges.bettering();
        edges.withoutAny();
        edges.fullest();
    }

    /**
     * Looks at a call, its arguments told by letters: L a light, S a ship, H an hour, N a night, A a law or none, a digit
     * for a what of so many, and other signs for what is never missing. Where the promise leaves the words to those
     * that say "as everywhere" (6, 7, 8, 11), there are none to quote.
     */
    private void look(int promise, String words, String name, String kinds, int[] good, ToIntFunction<int[]> call) {
        if (words.isEmpty()) {
            due.promise(promise);
        } else {
            due.promise(promise, words);
        }
        for (int i = 0; i < good.length; i++) {
            int many = many(kinds.charAt(i));
            int least = kinds.charAt(i) == 'A' ? -1 : 0;
            if (many > 0) {
                for (int value : new int[] {least, many - 1}) {
                    answered(name, with(good, i, value), call);
                }
                for (int value : new int[] {least - 1, many, many + 1, Integer.MIN_VALUE, Integer.MAX_VALUE}) {
                    missing(name, with(good, i, value), call);
                }
            }
        }
    }

    private static int many(char kind) {
        switch (kind) {
            case 'L': return LIGHTS;
            case 'S': return SHIPS;
            case 'H': return 240;
            case 'N': return 10;
            case 'A': return LAWS;
            default: return kind >= '1' && kind <= '9' ? kind - '0' : 0;
        }
    }

    private static int[] with(int[] good, int at, int value) {
        int[] all = good.clone();
        all[at] = value;
        return all;
    }

    private void answered(String name, int[] all, ToIntFunction<int[]> call) {
        begin();
        String shown = name + java.util.Arrays.toString(all);
        try {
            call.applyAsInt(all);
        } catch (RuntimeException e) {
            due.is(shown + " threw " + e.getClass().getSimpleName(), true, false);
        }
    }

    private void missing(String name, int[] all, ToIntFunction<int[]> call) {
        begin();
        String before = state();
        due.missing(name + java.util.Arrays.toString(all), () -> call.applyAsInt(all));
        due.is(name + " changes nothing", state().equals(before), true);
    }

    private void begin() {
        x = due.of(COAST);
        x.fill(0, 99);
        x.log(0, 12, 0, true);
    }

    private String state() {
        StringBuilder s = new StringBuilder();
        for (int what = 0; what < 13; what++) {
            s.append(x.count(what)).append(' ');
        }
        for (int light = 0; light < LIGHTS; light++) {
            s.append(x.light(light, 0)).append(' ').append(x.light(light, 2)).append(' ');
        }
        for (int ship = 0; ship < SHIPS; ship++) {
            s.append(x.ship(ship, 0)).append(' ').append(x.ship(ship, 1)).append(' ');
        }
        return s.append(x.fault()).append(' ').append(x.falsely()).toString();
    }

    private static int[] of(int... all) {
        return all;
    }

    private void asking() {
        String what = "NoSuchElementException: also another what.";
        look(6, "NoSuchElementException: no such LIGHT (as everywhere), what.", "light", "L7", of(0, 0), a -> x.light(a[0], a[1]));
        look(7, "NoSuchElementException: no such SHIP (as everywhere), what.", "ship", "S4", of(0, 0), a -> x.ship(a[0], a[1]));
        look(8, "NoSuchElementException: also no such HOUR (as everywhere).", "where", "LH", of(0, 0), a -> x.where(a[0], a[1]));
        look(9, what, "lamp", "LH2", of(0, 0, 0), a -> x.lamp(a[0], a[1], a[2]));
        look(10, "", "seen", "SH", of(0, 0), a -> x.seen(a[0], a[1]));
        look(11, "NoSuchElementException: also no such NIGHT (as everywhere).", "watch", "SN", of(0, 0), a -> x.watch(a[0], a[1]));
        look(12, "", "content", "N", of(0), a -> x.content(a[0]));
        look(13, "", "met", "L", of(0), a -> x.met(a[0], a[0] == 0 ? 1 : 0));
        look(13, "", "met", "L", of(0), a -> x.met(a[0] == 0 ? 1 : 0, a[0]));
        look(20, "", "lamps", "N", of(0), a -> x.lamps(a[0]));
        look(21, what, "signs", "N2", of(0, 0), a -> x.signs(a[0], a[1]));
        look(23, "", "visits", "H", of(0), a -> x.visits(a[0]));
        look(24, "", "visit", "LH", of(0, 0), a -> x.visit(a[0], a[1]));
    }

    private void acting() {
        for (int oil : new int[] {5, -1, 201}) {
            look(14, "", "fill", "L.", of(0, oil), a -> x.fill(a[0], a[1]));
        }
        for (int cell : new int[] {5, -1, 63, 62}) {
            look(15, "", "moor", "S.", of(0, cell), a -> x.moor(a[0], a[1]));
            look(16, "", "push", "L.", of(0, cell), a -> x.push(a[0], a[1]));
        }
        for (int want : new int[] {5, -1, 13}) {
            look(18, "", "want", "S.", of(0, want), a -> x.want(a[0], a[1]));
        }
        look(28, "NoSuchElementException (ahead): no such SHIP, HOUR, LIGHT.", "log", "SHL.", of(0, 0, 0, 1),
            a -> x.log(a[0], a[1], a[2], a[3] == 1));
        look(31, "NoSuchElementException: also another what.", "begun", "L3", of(0, 0), a -> x.begun(a[0], a[1]));
    }

    private void bettering() {
        String what = "NoSuchElementException: also another what.";
        look(25, "NoSuchElementException: no such LAW.", "compared", "A", of(0), a -> x.compared(a[0]));
        look(27, what, "mooring", "SN2", of(0, 0, 0), a -> x.mooring(a[0], a[1], a[2]));
        look(32, what, "game", "..N.2", of(0, 1, 0, 4, 0), a -> x.game(a[0], a[1], a[2], a[3], a[4]));
        // The other one is never the same.
        look(32, what, "game", "L....", of(0, 1, 0, 4, 0), a -> x.game(a[0], a[0] == 0 ? 1 : 0, a[2], a[3], a[4]));
        look(32, what, "game", ".L...", of(0, 1, 0, 4, 0), a -> x.game(a[1] == 0 ? 1 : 0, a[1], a[2], a[3], a[4]));
        look(33, "NoSuchElementException: another what.", "years", "..3", of(7, 3, 0), a -> x.years(a[0], a[1], a[2]));
        look(34, "", "father", "SH", of(0, 0), a -> x.father(a[0], a[1]));
        look(35, what, "journey", "L3", of(0, 0), a -> x.journey(a[0], a[1]));
        look(37, "", "sparing", "L", of(0), a -> x.sparing(a[0]));
        look(38, what, "start", "L2", of(0, 0), a -> x.start(a[0], a[1]));
        look(39, "", "alone", "N", of(0), a -> x.alone(a[0]));
        look(40, "NoSuchElementException: no such LAW.", "quarrels", "A", of(0), a -> x.quarrels(a[0]));
    }

    /** A sea without lights, ships and laws has none of them, whatever was there before. */
    private void withoutAny() {
        due.promise(6, "no such LIGHT (as everywhere)");
        SailingLights none = due.of(COAST);
        Due.read(none, "");
        due.missing("light 0", () -> none.light(0, 0));
        due.missing("where", () -> none.where(0, 0));
        due.missing("lamp", () -> none.lamp(0, 0, 0));
        due.missing("met", () -> none.met(0, 1));
        due.missing("fill", () -> none.fill(0, 1));
        due.missing("push", () -> none.push(0, 1));
        due.missing("visit", () -> none.visit(0, 0));
        due.missing("begun", () -> none.begun(0, 0));
        due.missing("game", () -> none.game(0, 1, 0, 4, 0));
        due.missing("journey", () -> none.journey(0, 0));
        due.missing("sparing", () -> none.sparing(0));
        due.missing("start", () -> none.start(0, 0));
        due.promise(7, "no such SHIP (as everywhere)");
        due.missing("ship 0", () -> none.ship(0, 0));
        due.missing("seen", () -> none.seen(0, 0));
        due.missing("watch", () -> none.watch(0, 0));
        due.missing("moor", () -> none.moor(0, 1));
        due.missing("want", () -> none.want(0, 1));
        due.missing("mooring", () -> none.mooring(0, 0, 0));
        due.missing("log", () -> none.log(0, 0, 0, true));
        due.missing("father", () -> none.father(0, 0));
        due.promise(25, "NoSuchElementException: no such LAW.");
        due.missing("compared", () -> none.compared(0));
        due.is("compared(-1)", none.compared(-1), 0);
        due.promise(40, "NoSuchElementException: no such LAW.");
        due.missing("quarrels", () -> none.quarrels(0));
        due.is("quarrels(-1)", none.quarrels(-1), 0);
        due.promise(15);
        due.is("none of these was refused as an act", none.count(11), 0);
    }

    /** As many lights and ships as there may be, too far off to be seen, or all in sight: asked of the last ones. */
    private void fullest() {
        for (int reach : new int[] {1, 12}) {
            StringBuilder s = new StringBuilder("sea 12 12;");
            for (int i = 0; i < 5; i++) {
                s.append("light ").append(i).append(" 0 ").append(reach).append(" 200 0 o l;");
            }
            for (int i = 0; i < 8; i++) {
                s.append("ship ").append(i).append(" 11 12;");
            }
            int near = reach == 12 ? 1 : 0;
            SailingLights full = due.of(s.toString());
            due.promise(7);
            due.is("dark", full.ship(7, 3), 120 - 120 * near);
            due.is("unseen", full.ship(7, 2), -near);
            due.promise(10);
            due.is("seen in the last hour", full.seen(7, 239), 31 * near);
            due.promise(11);
            due.is("watch in the last night", full.watch(7, 9), 12 * near);
            due.promise(12);
            due.is("content in the last night", full.content(9), 255 * near);
            due.promise(20);
            due.is("lamps in the last night", full.lamps(9), near);
            due.promise(21);
            due.is("signs in the last night", full.signs(9, 0), 1 + 4 * near);
            due.is("couples in the last night", full.signs(9, 1), 10 * near);
            due.promise(27);
            due.is("mooring in the last night", full.mooring(7, 9, 1), 12);
            due.is("the first cell is near a light", full.mooring(7, 9, 0), 0);
            due.promise(35);
            due.is("shows", full.journey(4, 2), 960 * near);
            due.promise(39);
            due.is("alone in the last night", full.alone(9), 0);
            full.fill(0, 0);
            full.fill(1, 0);
            full.fill(2, 0);
            full.fill(3, 0);
            due.is("the last light alone", full.alone(9), 8 * near);
            due.promise(34);
            due.is("the last light is his father", full.father(7, 239), near == 1 ? 4 : -1);
            due.promise(27);
            full.fill(4, 0);
            due.is("nothing is seen anywhere", full.mooring(7, 9, 1), 0);
        }
    }
}
