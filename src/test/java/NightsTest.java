/** Promises 7 to 13 and 20 to 24: ways, lamps, what is seen, watches, meetings; lamps, signs, visits. */
final class NightsTest {
    private static final Due DUE = new Due("NightsTest");
    private static final String COAST =
        "sea 6 4;cape 3 1;light 0 0 5 100 3 e l;light 5 3 4 3 7 o k;ship 2 0 3;ship 5 1 12;fog 0;";

    public static void main(String[] args) {
        ships();
        ways();
        laws();
        lamps();
        sights();
        watches();
        content();
        meetings();
        fewestLamps();
        signs();
        who();
        visits();
        visit();
        DUE.end();
    }

    private static void ships() {
        DUE.promise(7);
        SailingLights x = DUE.of(COAST);
        int[] want = {2, 3, 9, 20};
        for (int what = 0; what < want.length; what++) {
            DUE.is("ship(0, " + what + ")", x.ship(0, what), want[what]);
        }
        DUE.missing("ship(2, 0)", () -> x.ship(2, 0));
        DUE.missing("ship(-1, 0)", () -> x.ship(-1, 0));
        DUE.missing("ship(0, 4)", () -> x.ship(0, 4));
        DUE.missing("ship(0, -1)", () -> x.ship(0, -1));
        SailingLights always = DUE.of("light 0 0 12 120 0 o l;ship 0 0 0;");
        DUE.is("never unseen", always.ship(0, 2), -1);
        DUE.is("never dark", always.ship(0, 3), 0);
        always.fill(0, 119);
        DUE.is("an hour is not a night", always.ship(0, 2), -1);
        DUE.is("dark for an hour", always.ship(0, 3), 1);
        always.fill(0, 0);
        DUE.is("unseen at once", always.ship(0, 2), 0);
        DUE.is("dark for good", always.ship(0, 3), 120);
        SailingLights fog = DUE.of("light 0 0 5 200 0 o l;ship 0 5 0;fog 0 1 1;");
        DUE.is("unseen in fog", fog.ship(0, 2), 1);
        DUE.is("dark over the day between", fog.ship(0, 3), 24);
    }

    private static void ways() {
        DUE.promise(8);
        SailingLights x = DUE.of("sea 4 3;cape 2 0;light 0 0 1 0 0 es l;");
        int[] want = {0, 1, 5, 6, 10, 11, 11};
        for (int hour = 0; hour < want.length; hour++) {
            DUE.is("where(0, " + hour + ")", x.where(0, hour), want[hour]);
        }
        DUE.is("where(0, 239)", x.where(0, 239), 11);
        DUE.missing("where(0, 240)", () -> x.where(0, 240));
        DUE.missing("where(0, -1)", () -> x.where(0, -1));
        DUE.missing("where(1, 0)", () -> x.where(1, 0));
        SailingLights cape = DUE.of("sea 4 3;cape 2 0;light 1 0 1 0 0 ew l;light 3 2 1 0 0 wn l;");
        DUE.is("not to a cape", cape.where(0, 1), 1);
        DUE.is("then left", cape.where(0, 2), 0);
        DUE.is("left, and up", cape.where(1, 2), 6);
        DUE.is("left, and not up again", cape.where(1, 4), 1);
        SailingLights shipsAround = DUE.of("sea 3 1;light 0 0 1 0 0 e l;ship 1 0 0;");
        DUE.is("ships are in nobody's way", shipsAround.where(0, 2), 2);
        SailingLights first = DUE.of("light 0 0 1 0 3 e l;light 1 0 1 0 7 e l;");
        DUE.is("the most goes first", first.where(0, 1), 1);
        SailingLights last = DUE.of("light 0 0 1 0 7 e l;light 1 0 1 0 3 e l;");
        DUE.is("the least goes last", last.where(0, 1), 0);
        SailingLights like = DUE.of("light 1 0 1 0 3 w l;light 0 0 1 0 3 s l;");
        DUE.is("of like ones the lesser first", like.where(0, 1), 1);
        DUE.is("the other goes behind", like.where(1, 1), 8);
    }

    /** A light 1 that stands in light 0's way moves off first, if the law gives it more. */
    private static void law(String law, int yields) {
        SailingLights x = DUE.of("light 0 0 3 5 2 e l;light 1 0 4 7 6 e l;yields " + law + ";");
        DUE.is(law, x.where(0, 1), yields);
    }

    private static void laws() {
        DUE.promise(8);
        law("rank", 1);
        law("0-rank", 0);
        law("oil", 1);
        law("0-oil", 0);
        law("light", 1);
        law("0-light", 0);
        law("reach", 1);
        law("0-reach", 0);
        law("hour", 0);
        law("lit", 0);
        law("light=1", 1);
        law("light=0", 0);
        law("not light", 0);
        law("not not light", 1);
        law("rank<6", 0);
        law("6<rank+1", 1);
        law("rank-4/3*3", 1);
        law("(rank-4)/3", 0);
        law("(0-rank)/4", 0);
        law("rank/0", 0);
        law("10-rank-2", 0);
        law("10-(rank-20)", 0);
        law("light*1000*1000*1000*3", 0);
        law("light*1000*1000*1000*5", 1);
        law("light or 0 and 0", 1);
        law("(light or 0) and 0", 0);
        law("not light=0", 1);
        law("5 and light", 1);
        law("7 or light", 0);
        SailingLights hours = DUE.of("light 0 0 1 0 0 e l;light 1 0 1 0 0 e l;yields (hour<1)*light;");
        DUE.is("hour 0", hours.where(0, 1), 1);
        DUE.is("hour 1", hours.where(0, 2), 1);
        DUE.is("hour 2", hours.where(0, 3), 2);
        // Both want the cell between them in hours 0, 12, 24 .., and go home in hours 11, 23, 35 ..
        String rivals = "sea 3 1;light 0 0 1 %s 0 eoooooooooow l;light 2 0 1 %s 0 wooooooooooe l;yields %s;";
        SailingLights lit = DUE.of(String.format(rivals, 0, 13, "lit"));
        DUE.is("not lit in hour 0: the lesser", lit.where(0, 1), 1);
        DUE.is("lit in hour 12: light 1", lit.where(1, 13), 1);
        DUE.is("not lit in hour 24", lit.where(0, 25), 1);
        DUE.is("the last oil in hour 36", lit.where(1, 37), 1);
        DUE.is("none in hour 60", lit.where(0, 61), 1);
        SailingLights burnt = DUE.of(String.format(rivals, 20, 0, "oil*(light=0)+10*light"));
        DUE.is("20 in hour 12", burnt.where(0, 13), 1);
        DUE.is("8 in hour 24", burnt.where(1, 25), 1);
        SailingLights day = DUE.of(String.format(rivals, 0, 0, "(hour=12)*light"));
        DUE.is("hour 0", day.where(0, 1), 1);
        DUE.is("hour 12", day.where(1, 13), 1);
        DUE.is("hour 24 is hour 0", day.where(0, 25), 1);
        DUE.is("hour 36 is hour 12", day.where(1, 37), 1);
    }

    private static void lamps() {
        DUE.promise(9);
        SailingLights x = DUE.of(COAST);
        DUE.is("lamp(1, 12, 0)", x.lamp(1, 12, 0), 3);
        DUE.is("lamp(1, 14, 0)", x.lamp(1, 14, 0), 1);
        DUE.is("lamp(1, 15, 0)", x.lamp(1, 15, 0), 0);
        DUE.is("lamp(1, 239, 0)", x.lamp(1, 239, 0), 0);
        DUE.is("lamp(0, 11, 1)", x.lamp(0, 11, 1), 0);
        DUE.is("lamp(0, 12, 1)", x.lamp(0, 12, 1), 1);
        DUE.is("lamp(0, 23, 1)", x.lamp(0, 23, 1), 1);
        DUE.is("lamp(0, 24, 1)", x.lamp(0, 24, 1), 0);
        DUE.is("lamp(0, 36, 0)", x.lamp(0, 36, 0), 88);
        DUE.is("lamp(0, 37, 0)", x.lamp(0, 37, 0), 87);
        DUE.missing("lamp(0, 0, 2)", () -> x.lamp(0, 0, 2));
        DUE.missing("lamp(0, 240, 0)", () -> x.lamp(0, 240, 0));
        DUE.missing("lamp(2, 0, 0)", () -> x.lamp(2, 0, 0));
    }

    private static void sights() {
        DUE.promise(10);
        SailingLights x = DUE.of(COAST);
        DUE.is("seen(1, 12)", x.seen(1, 12), 3);
        DUE.is("seen(0, 11)", x.seen(0, 11), 0);
        DUE.missing("seen(2, 0)", () -> x.seen(2, 0));
        DUE.missing("seen(0, 240)", () -> x.seen(0, 240));
        SailingLights knight = DUE.of("cape 1 1;light 0 0 12 200 0 o l;ship 1 2 0;ship 2 2 0;ship 3 3 0;ship 2 4 0;ship 0 1 0;");
        int[] want = {1, 0, 0, 1, 1};
        for (int ship = 0; ship < want.length; ship++) {
            DUE.is("past a cape, seen(" + ship + ", 12)", knight.seen(ship, 12), want[ship]);
        }
        SailingLights half = DUE.of("cape 1 2;light 0 0 12 200 0 o l;ship 2 4 0;");
        DUE.is("a cape on a steep line", half.seen(0, 12), 0);
        SailingLights behind = DUE.of("cape 3 0;light 1 0 12 200 0 o l;ship 0 0 0;ship 2 0 0;");
        DUE.is("a cape behind the light", behind.seen(0, 12), 1);
        DUE.is("a cape behind the ship", behind.seen(1, 12), 1);
        SailingLights reach = DUE.of("light 0 0 3 200 0 o l;ship 3 0 0;ship 4 0 0;ship 3 3 0;ship 0 0 0;fog 0 1 3 4;");
        DUE.is("no farther than its reach", reach.seen(0, 12), 1);
        DUE.is("farther", reach.seen(1, 12), 0);
        DUE.is("slant is no farther", reach.seen(2, 12), 1);
        DUE.is("less the fog", reach.seen(0, 36), 0);
        DUE.is("in its own cell", reach.seen(3, 60), 1);
        DUE.is("in its own cell in a fog beyond its reach", reach.seen(3, 84), 0);
        DUE.is("fogs come again", reach.seen(0, 108), 1);
    }

    private static void watches() {
        DUE.promise(11);
        SailingLights x = DUE.of(COAST);
        DUE.is("watch(0, 7)", x.watch(0, 7), 12);
        DUE.is("watch(0, 8)", x.watch(0, 8), 4);
        DUE.is("watch(0, 9)", x.watch(0, 9), 0);
        DUE.missing("watch(0, 10)", () -> x.watch(0, 10));
        DUE.missing("watch(0, -1)", () -> x.watch(0, -1));
        DUE.missing("watch(2, 0)", () -> x.watch(2, 0));
    }

    private static void content() {
        DUE.promise(12);
        SailingLights x = DUE.of("light 0 0 3 200 0 o l;ship 0 0 12;ship 7 7 1;ship 7 6 0;");
        DUE.is("content(0)", x.content(0), 5);
        DUE.missing("content(10)", () -> x.content(10));
        DUE.missing("content(-1)", () -> x.content(-1));
    }

    private static void meetings() {
        DUE.promise(13);
        SailingLights x = DUE.of("sea 9 2;light 0 0 1 0 0 e l;light 8 1 1 0 0 w l;light 4 0 1 0 0 o l;");
        DUE.is("met(0, 1)", x.met(0, 1), 4);
        DUE.is("met(1, 0)", x.met(1, 0), 4);
        DUE.is("met(0, 2)", x.met(0, 2), 3);
        DUE.missing("met(0, 3)", () -> x.met(0, 3));
        DUE.missing("met(3, 3)", () -> x.met(3, 3));
        DUE.missing("met(-1, 0)", () -> x.met(-1, 0));
        DUE.unfit("met(2, 2)", () -> x.met(2, 2));
        DUE.is("never", DUE.of("light 0 0 1 0 0 o l;light 2 0 1 0 0 o l;").met(0, 1), -1);
        DUE.is("at once", DUE.of("light 0 0 1 0 0 o l;light 1 1 1 0 0 o l;").met(0, 1), 0);
    }

    private static void fewestLamps() {
        DUE.promise(20);
        String three = "light 0 0 2 200 0 o l;light 2 0 2 200 0 o l;light 4 0 2 200 0 o l;";
        DUE.is("one for both", DUE.of(three + "ship 1 0 12;ship 3 0 12;").lamps(0), 2);
        DUE.is("two for both ends", DUE.of(three + "ship 0 2 1;ship 6 0 1;").lamps(0), 5);
        DUE.is("of as few the least", DUE.of(three + "ship 2 2 12;").lamps(0), 1);
        DUE.is("none for those who want none", DUE.of(three + "ship 0 2 0;").lamps(0), 0);
        DUE.is("none for those who have none", DUE.of(three + "ship 7 7 1;").lamps(0), 0);
        SailingLights x = DUE.of("light 0 0 2 5 0 o l;light 1 0 2 12 0 oooooooooooo l;ship 0 1 6;");
        DUE.is("the one that burns long enough", x.lamps(0), 2);
        SailingLights both = DUE.of("light 0 0 1 120 0 oooooo l;light 4 0 1 120 0 o l;ship 0 1 12;ship 4 1 12;");
        DUE.is("both", both.lamps(9), 3);
        DUE.missing("lamps(10)", () -> both.lamps(10));
        DUE.missing("lamps(-1)", () -> both.lamps(-1));
    }

    private static void signs() {
        DUE.promise(21);
        SailingLights x = DUE.of("light 0 0 2 200 0 o lk;light 2 0 2 12 0 o lk;light 4 0 2 200 0 o lk;light 7 7 1 200 0 o l;"
            + "ship 1 0 0;ship 3 0 0;");
        DUE.is("signs(0, 0)", x.signs(0, 0), 2);
        DUE.is("signs(0, 1)", x.signs(0, 1), 2);
        DUE.is("signs(1, 0)", x.signs(1, 0), 1);
        DUE.is("signs(1, 1)", x.signs(1, 1), 0);
        DUE.missing("signs(0, 2)", () -> x.signs(0, 2));
        DUE.missing("signs(10, 0)", () -> x.signs(10, 0));
        StringBuilder five = new StringBuilder();
        for (int i = 0; i < 5; i++) {
            five.append("light ").append(i).append(" 0 9 200 0 o ").append(i < 3 ? "l" : "ll").append(';');
        }
        SailingLights all = DUE.of(five + "ship 4 4 0;");
        DUE.is("all unlike", all.signs(0, 0), 5);
        DUE.is("three couples and one", all.signs(0, 1), 4);
        // A ring of five: neighbours are seen together.
        SailingLights ring = DUE.of("sea 12 12;light 0 0 1 200 0 o l;light 2 0 1 200 0 o l;light 4 0 1 200 0 o l;"
            + "light 6 0 1 200 0 o l;light 8 0 1 200 0 o k;ship 1 0 0;ship 3 0 0;ship 5 0 0;ship 7 0 0;");
        DUE.is("a row needs two", ring.signs(0, 0), 2);
        DUE.is("three alike in it", ring.signs(0, 1), 3);
        DUE.is("lights without ships", DUE.of("light 0 0 1 0 0 o l;").signs(0, 0), 1);
        DUE.is("no lights", DUE.of("ship 0 0 0;").signs(0, 0), 0);
    }

    private static void who() {
        DUE.promise(22);
        SailingLights x = DUE.of("light 0 0 1 0 0 o lkk;light 1 0 1 0 0 o lk;light 2 0 1 0 0 o l;light 3 0 1 0 0 o llkkkk;");
        DUE.is("long", x.who(1, 1), 15);
        DUE.is("short", x.who(0, 1), 11);
        DUE.is("long, short", x.who(1, 2), 11);
        DUE.is("short, long", x.who(3, 2), 11);
        DUE.is("long, long", x.who(4, 2), 12);
        DUE.is("short, short", x.who(0, 2), 9);
        DUE.is("long, unknown, long", x.who(1 + 6 + 9, 3), 6);
        DUE.is("all unknown", x.who(531440, 12), 15);
        DUE.is("all long", x.who(265720, 12), 4);
        DUE.is("over the end and on: long, short, short, short, short, long", x.who(1 + 243, 6), 8);
        DUE.unfit("who(0, 0)", () -> x.who(0, 0));
        DUE.unfit("who(0, 13)", () -> x.who(0, 13));
        DUE.unfit("who(-1, 3)", () -> x.who(-1, 3));
        DUE.unfit("who(27, 3)", () -> x.who(27, 3));
        DUE.unfit("who(531441, 12)", () -> x.who(531441, 12));
        DUE.is("who(26, 3)", x.who(26, 3), 15);
    }

    private static final String COUPLES = "sea 12 12;light 0 0 5 0 0 o l;light 6 0 5 0 0 o l;ship 1 1 0;ship 5 1 0;";

    private static void visits() {
        DUE.promise(23);
        DUE.is("visits(0)", DUE.of(COUPLES).visits(0), 1);
        // Reach less far orders all couples alike for both sides, so there is never a second stable matching.
        SailingLights two = DUE.of("sea 12 3;light 0 0 1 0 0 o l;light 7 0 3 0 0 o l;ship 3 0 0;ship 4 0 0;");
        DUE.is("two on two", two.visits(0), 1);
        DUE.is("no ships", DUE.of("light 0 0 1 0 0 o l;light 1 0 1 0 0 o l;").visits(239), 1);
        DUE.is("no lights", DUE.of("ship 0 0 1;").visits(0), 1);
        DUE.missing("visits(240)", () -> two.visits(240));
        DUE.missing("visits(-1)", () -> two.visits(-1));
    }

    private static void visit() {
        DUE.promise(24);
        SailingLights x = DUE.of(COUPLES);
        DUE.is("visit(0, 0)", x.visit(0, 0), 0);
        DUE.is("visit(1, 0)", x.visit(1, 0), 1);
        SailingLights more = DUE.of("light 0 0 3 0 0 o l;light 1 0 9 0 0 o l;light 2 0 5 0 0 o l;ship 0 1 0;ship 7 7 0;");
        DUE.is("the farthest reaching has the nearest", more.visit(1, 0), 0);
        DUE.is("the next has the other", more.visit(2, 0), 1);
        DUE.is("none is left", more.visit(0, 0), -1);
        SailingLights like = DUE.of("light 4 4 3 0 0 o l;ship 5 4 0;ship 3 4 0;");
        DUE.is("of like ones the least", like.visit(0, 0), 0);
        SailingLights lights = DUE.of("light 5 4 3 0 0 o l;light 3 4 3 0 0 o l;ship 4 4 0;");
        DUE.is("of like lights the least", lights.visit(0, 0), 0);
        DUE.is("the other has none", lights.visit(1, 0), -1);
        DUE.missing("visit(2, 0)", () -> lights.visit(2, 0));
        DUE.missing("visit(0, 240)", () -> lights.visit(0, 240));
    }
}
