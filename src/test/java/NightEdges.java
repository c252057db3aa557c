/** Every boundary case of promises 7 to 13 and 20 to 24, each under the words that name it. */
final class NightEdges {
    /** Seen from the ship in hours 14 and 15 of each day alone. */
    private static final String BY_TURNS = "sea 12 1;light 0 0 1 200 0 oeowoooooooo l;ship 2 0 0;";

    private final Due due;

    private NightEdges(Due due) {
        this.due = due;
    }

    static void run(Due due) {
        NightEdges edges = new NightEdges(due);
        edges.ship();
        edges.unseen();
        edges.longestDark();
        edges.where();
        edges.lamp();
        edges.far();
        edges.reachAndFog();
        edges.capesBetween();
        edges.everyCellAroundACape();
        edges.ownCell();
        edges.seen();
        edges.watch();
        edges.content();
        edges.met();
        edges.lamps();
        edges.signs();
        edges.taken();
        edges.who();
        edges.whoThrows();
        edges.visits();
        edges.stable();
    }

    private void ship() {
        due.promise(7, "Of a SHIP: 0 the CELL, 1 WANT, 2 UNSEEN (NONE), 3 THE LONGEST DARK.");
        SailingLights x = due.of("sea 12 12;light 0 0 12 13 0 o l;ship 0 0 0;ship 11 11 12;");
        int[][] want = {{0, 0, 2, 107}, {143, 12, 2, 107}};
        for (int ship = 0; ship < 2; ship++) {
            for (int what = 0; what < 4; what++) {
                due.is("ship(" + ship + ", " + what + ")", x.ship(ship, what), want[ship][what]);
            }
        }
        x.fill(0, 200);
        due.is("unseen: none", x.ship(0, 2), -1);
        due.is("never dark", x.ship(0, 3), 0);
    }

    private void unseen() {
        due.promise(7, "UNSEEN: the first NIGHT in which its WATCH is 0; none.");
        String one = "light 0 0 5 %d 0 o l;ship 0 5 0;";
        int[][] oils = {{0, 0}, {1, 1}, {12, 1}, {13, 2}, {107, 9}, {108, 9}, {109, -1}, {120, -1}, {200, -1}};
        for (int[] oil : oils) {
            due.is("oil " + oil[0], due.of(String.format(one, oil[0])).ship(0, 2), oil[1]);
        }
        String all = String.format(one, 200);
        due.is("the first of two", due.of(all + "fog 0 0 0 1 0 1 0 0;").ship(0, 2), 3);
        due.is("at once", due.of(all + "fog 1;").ship(0, 2), 0);
        due.is("no lights", due.of("ship 0 0 0;").ship(0, 2), 0);
        due.is("one hour in each night", due.of("sea 12 1;light 0 0 1 200 0 oewooooooooo l;ship 2 0 0;").ship(0, 2), -1);
    }

    private void longestDark() {
        due.promise(7, "THE LONGEST DARK of a SHIP: the most HOURS of nights (hour of the day 12 to 23) one behind the other, over "
            + "the days between, in which no LIGHT is SEEN from it.");
        String one = "light 0 0 5 %d 0 o l;ship 0 5 0;";
        int[][] oils = {{0, 120}, {1, 119}, {12, 108}, {119, 1}, {120, 0}, {200, 0}};
        for (int[] oil : oils) {
            due.is("oil " + oil[0], due.of(String.format(one, oil[0])).ship(0, 3), oil[1]);
        }
        String all = String.format(one, 200);
        due.is("one night", due.of(all + "fog 0 1;").ship(0, 3), 12);
        due.is("two nights, over the day between", due.of(all + "fog 0 1 1;").ship(0, 3), 24);
        due.is("the most of some", due.of(all + "fog 0 1 0 1 1 1 0 0;").ship(0, 3), 36);
        due.is("the last ones", due.of(all + "fog 0 0 1 0 0 0 0 1;").ship(0, 3), 12);
        due.is("the end of a night and the beginning of the next", due.of(BY_TURNS).ship(0, 3), 10);
        due.is("no lights", due.of("ship 0 0 0;").ship(0, 3), 120);
    }

    private void where() {
        due.promise(8, "In which CELL a LIGHT is.");
        SailingLights x = due.of("sea 12 12;light 0 0 1 0 0 es l;light 11 11 1 0 0 o l;");
        due.is("the first hour", x.where(0, 0), 0);
        due.is("a step right", x.where(0, 1), 1);
        due.is("a step down", x.where(0, 2), 13);
        due.is("the last cell is another's", x.where(0, 239), 131);
        due.is("the last cell", x.where(1, 239), 143);
    }

    private void lampIs(int oil, int hour, int has, int lit) {
        SailingLights x = due.of("light 0 0 1 " + oil + " 0 o l;");
        due.is("oil " + oil + ", hour " + hour, x.lamp(0, hour, 0), has);
        due.is("lit by oil " + oil + ", hour " + hour, x.lamp(0, hour, 1), lit);
    }

    private void lamp() {
        due.promise(9, "A LIGHT is LIT in an HOUR, if the hour of the day is 12 or more, and it has OIL: each such HOUR burns 1 "
            + "(in the HOUR; what it has is told ahead of that).");
        lampIs(200, 0, 200, 0);
        lampIs(200, 11, 200, 0);
        lampIs(200, 12, 200, 1);
        lampIs(200, 13, 199, 1);
        lampIs(200, 23, 189, 1);
        lampIs(200, 24, 188, 0);
        lampIs(200, 35, 188, 0);
        lampIs(200, 36, 188, 1);
        lampIs(200, 239, 81, 1);
        lampIs(0, 12, 0, 0);
        lampIs(0, 239, 0, 0);
        lampIs(1, 12, 1, 1);
        lampIs(1, 13, 0, 0);
        lampIs(12, 23, 1, 1);
        lampIs(12, 24, 0, 0);
        lampIs(12, 36, 0, 0);
        lampIs(13, 36, 1, 1);
        lampIs(13, 37, 0, 0);
        lampIs(119, 239, 0, 0);
        lampIs(120, 239, 1, 1);
        due.promise(9, "What OIL a LIGHT has (what 0), whether it is LIT (1).");
        SailingLights x = due.of("light 0 0 1 5 0 o l;light 1 0 1 50 0 o l;");
        due.is("light 0", x.lamp(0, 20, 0), 0);
        due.is("light 1", x.lamp(1, 20, 0), 42);
        due.is("light 0 is not lit", x.lamp(0, 20, 1), 0);
        due.is("light 1 is lit", x.lamp(1, 20, 1), 1);
        x.fill(0, 9);
        due.is("filled", x.lamp(0, 20, 0), 1);
        x.undo();
        due.is("undone", x.lamp(0, 20, 0), 0);
    }

    private int seenBy(int reach, int fog, String ship) {
        return due.of("sea 12 12;light 5 5 " + reach + " 200 0 o l;ship " + ship + " 0;fog " + fog + ";").seen(0, 12);
    }

    private void far() {
        due.promise(10, "FAR is from one CELL to another the greater of both differences.");
        String[] threeOff = {"8 5", "2 5", "5 8", "5 2", "8 8", "2 2", "8 2", "2 8", "8 6", "4 2", "3 8"};
        for (String ship : threeOff) {
            due.is("reach 3 to " + ship, seenBy(3, 0, ship), 1);
            due.is("reach 2 to " + ship, seenBy(2, 0, ship), 0);
        }
        due.is("one end", due.of("sea 12 1;light 0 0 11 200 0 o l;ship 11 0 0;").seen(0, 12), 1);
        due.is("one end, too far", due.of("sea 12 1;light 0 0 10 200 0 o l;ship 11 0 0;").seen(0, 12), 0);
        due.is("farther than any: 11 both ways", due.of("sea 12 12;light 0 0 11 200 0 o l;ship 11 11 0;").seen(0, 12), 1);
    }

    private void reachAndFog() {
        due.promise(10, "From a SHIP a LIGHT is SEEN in an HOUR, if it is LIT, no farther than its REACH less the FOG,");
        due.is("fog 0", seenBy(3, 0, "8 5"), 1);
        due.is("fog 1", seenBy(3, 1, "8 5"), 0);
        due.is("fog 1, reach 4", seenBy(4, 1, "8 5"), 1);
        due.is("fog 9, reach 12", seenBy(12, 9, "8 5"), 1);
        due.is("fog 9, reach 11", seenBy(11, 9, "8 5"), 0);
        due.is("a reach below 0 less the fog", seenBy(1, 9, "6 5"), 0);
        SailingLights x = due.of("light 0 0 5 2 0 o l;ship 5 5 0;");
        int[][] hours = {{0, 0}, {11, 0}, {12, 1}, {13, 1}, {14, 0}, {36, 0}};
        for (int[] hour : hours) {
            due.is("hour " + hour[0], x.seen(0, hour[0]), hour[1]);
        }
        SailingLights last = due.of("light 0 0 5 120 0 o l;ship 5 5 0;");
        due.is("the last hour", last.seen(0, 239), 1);
        last.fill(0, 119);
        due.is("one oil too few", last.seen(0, 239), 0);
    }

    private void capesBetween() {
        due.promise(10, "and no CAPE is on the straight line between both (a CELL between both, exactly on it);");
        String at = "sea 12 12;%slight 5 5 12 200 0 o l;ship %s 0;";
        String[][] hidden = {{"7 5", "9 5"}, {"8 5", "9 5"}, {"6 5", "9 5"}, {"3 5", "0 5"}, {"5 7", "5 9"}, {"5 3", "5 0"}, {"7 7", "9 9"},
            {"3 3", "0 0"}, {"7 3", "9 1"}, {"3 7", "1 9"}, {"6 7", "7 9"}, {"7 6", "9 7"}, {"4 3", "3 1"}, {"3 4", "1 3"},
            {"6 3", "7 1"}, {"7 4", "11 2"}, {"9 3", "11 2"}, {"8 7", "11 9"}, {"3 6", "1 7"}};
        for (String[] pair : hidden) {
            due.is("a cape at " + pair[0] + " hides from " + pair[1], due.of(String.format(at, "cape " + pair[0] + ";", pair[1])).seen(0, 12), 0);
        }
        String[][] open = {{"6 6", "7 9"}, {"6 8", "7 9"}, {"7 6", "9 5"}, {"7 4", "9 5"}, {"10 5", "9 5"}, {"4 5", "9 5"}, {"6 6", "9 8"},
            {"7 6", "9 8"}, {"8 7", "9 8"}, {"4 4", "9 9"}, {"10 10", "9 9"}, {"6 5", "6 6"}, {"5 6", "6 6"}, {"6 6", "8 7"}, {"7 6", "8 7"},
            {"7 7", "11 9"}};
        for (String[] pair : open) {
            due.is("a cape at " + pair[0] + " leaves " + pair[1], due.of(String.format(at, "cape " + pair[0] + ";", pair[1])).seen(0, 12), 1);
        }
        due.is("side by side there is none between",
            due.of("sea 3 3;cape 0 0;cape 1 0;cape 2 0;cape 0 2;cape 1 2;cape 2 2;light 1 1 1 200 0 o l;ship 2 1 0;").seen(0, 12), 1);
        due.is("the last of twelve capes hides", due.of("sea 12 12;cape 0 1;cape 1 1;cape 2 1;cape 3 1;cape 4 1;cape 5 1;cape 6 1;cape 7 1;"
            + "cape 8 1;cape 9 1;cape 10 1;cape 11 1;light 11 0 12 200 0 o l;ship 11 2 0;").seen(0, 12), 0);
    }

    /** All couples of cells around one cape, eight ships and five lights at a time. */
    private void everyCellAroundACape() {
        due.promise(10, "no CAPE is on the straight line between both");
        for (int ships = 0; ships < 24; ships += 8) {
            for (int lights = 0; lights < 24; lights += 5) {
                StringBuilder s = new StringBuilder("sea 5 5;cape 2 2;");
                for (int i = ships; i < ships + 8; i++) {
                    s.append("ship ").append(cell(i) % 5).append(' ').append(cell(i) / 5).append(" 0;");
                }
                for (int i = lights; i < lights + 5 && i < 24; i++) {
                    s.append("light ").append(cell(i) % 5).append(' ').append(cell(i) / 5).append(" 12 200 0 o l;");
                }
                SailingLights x = due.of(s.toString());
                for (int ship = 0; ship < 8; ship++) {
                    int want = 0;
                    for (int light = 0; light < x.count(3); light++) {
                        want |= hidden(cell(ships + ship), cell(lights + light)) ? 0 : 1 << light;
                    }
                    due.is("from cell " + cell(ships + ship) + " to cells from " + cell(lights), x.seen(ship, 12), want);
                }
            }
        }
    }

    /** The i-th cell of a sea of 5 by 5 but for the one in its middle. */
    private static int cell(int i) {
        return i < 12 ? i : i + 1;
    }

    /** Whether the middle of a sea of 5 by 5 is between two cells: they are opposite, as seen from there. */
    private static boolean hidden(int one, int other) {
        int x = one % 5 - 2;
        int y = one / 5 - 2;
        int toX = other % 5 - 2;
        int toY = other / 5 - 2;
        return x * toY == y * toX && x * toX + y * toY < 0;
    }

    private void ownCell() {
        due.promise(10, "a LIGHT in the SHIP's own CELL is SEEN, if its REACH is no less than the FOG.");
        due.is("no fog", seenBy(1, 0, "5 5"), 1);
        due.is("as much fog", seenBy(1, 1, "5 5"), 1);
        due.is("more fog", seenBy(1, 2, "5 5"), 0);
        due.is("nine of both", seenBy(9, 9, "5 5"), 1);
        due.is("one less than nine", seenBy(8, 9, "5 5"), 0);
    }

    private void seen() {
        due.promise(10, "LIGHTS that are SEEN from a SHIP, as bits.");
        StringBuilder s = new StringBuilder();
        for (int i = 0; i < 5; i++) {
            s.append("light ").append(i).append(" 0 7 ").append(i + 1).append(" 0 o l;");
        }
        SailingLights x = due.of(s + "ship 0 0 0;ship 7 7 0;");
        int[] want = {0, 31, 30, 28, 24, 16, 0};
        for (int i = 0; i < want.length; i++) {
            due.is("hour " + (11 + i), x.seen(0, 11 + i), want[i]);
        }
        due.is("from another ship", x.seen(1, 12), 31);
        due.is("none", due.of("ship 0 0 0;").seen(0, 12), 0);
    }

    private void watch() {
        due.promise(11, "WATCH of a SHIP in a NIGHT: in how many HOURS of it some LIGHT is SEEN from it.");
        SailingLights x = due.of("light 0 0 5 13 0 o l;light 1 0 5 5 0 o l;ship 0 0 0;ship 6 0 0;ship 7 7 0;");
        int[][] want = {{12, 1, 0}, {5, 0, 0}, {0, 0, 0}};
        for (int ship = 0; ship < 3; ship++) {
            for (int night = 0; night < 3; night++) {
                due.is("watch(" + ship + ", " + night + ")", x.watch(ship, night), want[ship][night]);
            }
        }
        due.promise(11, "WATCH.");
        due.is("two hours of each night", due.of(BY_TURNS).watch(0, 0), 2);
        due.is("of the last night", due.of(BY_TURNS).watch(0, 9), 2);
        due.is("twelve at most", due.of("light 0 0 5 200 0 o l;light 1 0 5 200 0 o l;ship 0 0 0;").watch(0, 9), 12);
        due.is("lights by turns add up",
            due.of("light 0 0 5 6 0 o l;light 7 7 9 200 0 o l;ship 0 0 0;fog 3;").watch(0, 0), 6);
    }

    private void content() {
        due.promise(12, "CONTENT are SHIPS with a WATCH of WANT or more in a NIGHT.");
        SailingLights x = due.of("light 0 0 7 5 0 o l;ship 0 0 4;ship 1 0 5;ship 2 0 6;ship 3 0 0;");
        due.is("less, as much, more, none", x.content(0), 11);
        due.is("those who want none", x.content(1), 8);
        x.fill(0, 120);
        x.want(2, 12);
        due.is("twelve in the last night", x.content(9), 15);
        x.fill(0, 119);
        due.is("eleven are too few for one", x.content(9), 11);
        due.promise(12, "CONTENT, as bits.");
        StringBuilder s = new StringBuilder("light 0 0 7 12 0 o l;");
        for (int i = 0; i < 8; i++) {
            s.append("ship ").append(i).append(" 7 ").append(i % 2 * 12).append(';');
        }
        due.is("all eight", due.of(s.toString()).content(0), 255);
        due.is("half of them", due.of(s.toString()).content(1), 85);
        due.is("no ships", due.of("light 0 0 7 12 0 o l;").content(0), 0);
    }

    private void met() {
        due.promise(13, "MET: the first HOUR in which two LIGHTS are no farther than 1; none.");
        due.is("side by side", due.of("light 0 0 1 0 0 o l;light 1 0 1 0 0 o l;").met(0, 1), 0);
        due.is("corner to corner", due.of("light 0 0 1 0 0 o l;light 1 1 1 0 0 o l;").met(0, 1), 0);
        due.is("two off", due.of("light 0 0 1 0 0 o l;light 2 0 1 0 0 o l;").met(0, 1), -1);
        due.is("two off, slant", due.of("light 0 0 1 0 0 o l;light 1 2 1 0 0 o l;").met(1, 0), -1);
        due.is("over the edge is not near", due.of("sea 3 3;light 2 0 1 0 0 o l;light 0 1 1 0 0 o l;").met(0, 1), -1);
        due.is("in the next hour", due.of("light 0 0 1 0 0 o l;light 2 0 1 0 0 w l;").met(0, 1), 1);
        due.is("it need not be lit, nor last", due.of("light 0 0 1 0 0 o l;light 3 0 1 0 0 wwee l;").met(0, 1), 2);
        // Light 2 is ahead of light 0 in hours 10, 22 .. as long as its oil is more than the law gives light 0.
        String late = "sea 3 2;light 0 0 1 0 0 ooooooooooew l;light 2 0 1 0 0 o l;light 1 1 1 200 0 oooooooooons l;"
            + "yields (light=2)*oil+(light=0)*%d;";
        due.is("in the last hour", due.of(String.format(late, 83)).met(0, 1), 239);
        due.is("in no hour", due.of(String.format(late, 81)).met(0, 1), -1);
        due.promise(13, "MET; NONE: none.");
        SailingLights x = due.of("sea 9 1;light 0 0 1 0 0 e l;light 8 0 1 0 0 o l;light 4 0 1 0 0 o l;");
        due.is("of two", x.met(0, 2), 3);
        due.is("the other way round", x.met(2, 0), 3);
        due.is("never", x.met(0, 1), -1);
        due.promise(13, "IllegalArgumentException (behind NoSuchElementException): both are one.");
        for (int light = 0; light < 3; light++) {
            int one = light;
            due.unfit("met(" + one + ", " + one + ")", () -> x.met(one, one));
        }
        due.missing("met(3, 3)", () -> x.met(3, 3));
        due.missing("met(-1, -1)", () -> x.met(-1, -1));
        due.missing("met(0, 3)", () -> x.met(0, 3));
        due.missing("met(3, 0)", () -> x.met(3, 0));
    }

    private static String lightAt(int x, int y) {
        return "light " + x + " " + y + " 1 200 0 o l;";
    }

    private void lamps() {
        due.promise(20, "LAMPS for a NIGHT: the fewest LIGHTS such that all SHIPS that are CONTENT in it would still be so by these "
            + "alone (none else SEEN, all going as ever): of as few the least as bits.");
        String two = lightAt(0, 0) + lightAt(2, 0);
        due.is("no ships", due.of(two).lamps(0), 0);
        due.is("no lights", due.of("ship 0 0 0;ship 1 1 1;").lamps(0), 0);
        due.is("none is content", due.of(two + "ship 7 7 1;").lamps(0), 0);
        due.is("none wants", due.of(two + "ship 0 0 0;").lamps(0), 0);
        due.is("one of both, the least", due.of(two + "ship 1 0 12;").lamps(0), 1);
        due.is("the other one", due.of(two + "ship 1 0 12;ship 3 0 1;").lamps(0), 2);
        due.is("both", due.of(two + "ship 0 1 1;ship 3 0 1;").lamps(0), 3);
        due.is("fewer ahead of lesser bits",
            due.of(lightAt(0, 0) + lightAt(4, 0) + lightAt(2, 0) + "ship 1 0 1;ship 3 0 1;").lamps(0), 4);
        due.is("three ways by two: the least as bits",
            due.of(lightAt(0, 0) + lightAt(2, 0) + lightAt(6, 0) + lightAt(4, 0) + "ship 1 0 1;ship 3 0 1;ship 5 0 1;").lamps(0), 6);
        StringBuilder five = new StringBuilder();
        for (int i = 0; i < 5; i++) {
            five.append(lightAt(i, i)).append("ship ").append(i + 1).append(' ').append(i).append(" 12;");
        }
        due.is("every second of five", due.of(five.toString()).lamps(9), 21);
        StringBuilder all = new StringBuilder("sea 12 12;");
        for (int i = 0; i < 5; i++) {
            all.append(lightAt(2 * i, 0)).append("ship ").append(2 * i).append(" 0 12;");
        }
        due.is("all five", due.of(all.toString()).lamps(9), 31);
        SailingLights hours = due.of("light 0 0 9 6 0 o l;light 1 0 9 7 0 o l;light 7 7 9 200 0 o l;ship 0 0 7;fog 3;");
        due.is("as often as it wants", hours.lamps(0), 2);
        hours.want(0, 6);
        due.is("less often", hours.lamps(0), 1);
        hours.want(0, 8);
        due.is("it was not content ahead", hours.lamps(0), 0);
        SailingLights parts = due.of("sea 12 1;light 0 0 1 6 0 o l;light 2 0 1 200 0 oooooweooooo l;ship 0 0 7;");
        due.is("one hour of the other is wanted too", parts.lamps(0), 3);
        SailingLights way = due.of("sea 12 1;light 0 0 1 200 0 e l;light 1 0 1 0 0 o l;ship 0 0 12;");
        due.is("what isn't lit is still in the way", way.lamps(0), 1);
        due.promise(20, "LAMPS, LIGHTS as bits.");
        due.is("light 4 alone", due.of(lightAt(7, 0) + lightAt(7, 2) + lightAt(7, 4) + lightAt(7, 6) + lightAt(0, 0) + "ship 0 0 1;").lamps(5), 16);
    }

    private void signs() {
        due.promise(21, "SIGNS for a NIGHT: two LIGHTS must have unlike ones, if both are SEEN from one SHIP in some HOUR of it: how "
            + "few unlike ones there must be (0 without LIGHTS);");
        due.is("no lights", due.of("ship 0 0 0;").signs(0, 0), 0);
        due.is("no ships", due.of(lightAt(0, 0) + lightAt(1, 0)).signs(0, 0), 1);
        due.is("one light", due.of(lightAt(0, 0) + "ship 0 0 0;").signs(0, 0), 1);
        due.is("not even seen", due.of(lightAt(0, 0) + lightAt(1, 0) + "ship 7 7 0;").signs(0, 0), 1);
        due.is("two from one ship", due.of(lightAt(0, 0) + lightAt(2, 0) + "ship 1 0 0;").signs(0, 0), 2);
        due.is("two from two ships", due.of(lightAt(0, 0) + lightAt(2, 0) + "ship 0 0 0;ship 3 0 0;").signs(0, 0), 1);
        // Light 0 is lit in hours 12 to 17, or 18; light 1 is in sight in hours 18 to 23.
        String turns = "sea 12 1;light 2 0 1 %d 0 o l;light 0 0 1 200 0 oooooeooooow l;ship 2 0 0;";
        due.is("from one ship in different hours", due.of(String.format(turns, 6)).signs(0, 0), 1);
        due.is("in one hour", due.of(String.format(turns, 7)).signs(0, 0), 2);
        due.is("in another night", due.of(String.format(turns, 7)).signs(1, 0), 1);
        due.is("a row of three", due.of(lightAt(0, 0) + lightAt(2, 0) + lightAt(4, 0) + "ship 1 0 0;ship 3 0 0;").signs(0, 0), 2);
        due.is("three from one ship", due.of(lightAt(0, 0) + lightAt(2, 0) + lightAt(1, 1) + "ship 1 0 0;").signs(0, 0), 3);
        String ring = "sea 12 12;" + lightAt(0, 1) + lightAt(2, 0) + lightAt(4, 0) + lightAt(4, 2) + lightAt(2, 3);
        String around = "ship 1 0 0;ship 3 0 0;ship 4 1 0;ship 3 3 0;";
        due.is("a row of five", due.of(ring + around).signs(0, 0), 2);
        due.is("a ring of five", due.of(ring + around + "ship 1 2 0;").signs(0, 0), 3);
        StringBuilder five = new StringBuilder();
        for (int i = 0; i < 5; i++) {
            five.append("light ").append(i).append(" 0 7 ").append(i == 0 ? 1 : 200).append(" 0 o l;");
        }
        due.is("all five", due.of(five + "ship 0 7 0;").signs(0, 0), 5);
        due.is("four in another night", due.of(five + "ship 0 7 0;").signs(1, 0), 4);
        due.is("four in the last night", due.of(five + "ship 0 7 0;").signs(9, 0), 4);
        due.promise(21, "SIGNS: how few (what 0), TAKEN: how many couples (1).");
        SailingLights x = due.of(five + "ship 0 7 0;");
        due.is("how few", x.signs(0, 0), 5);
        due.is("how many couples", x.signs(0, 1), 10);
        due.is("how many couples of four", x.signs(9, 1), 6);
    }

    private void takenIs(String sign, String other, int want) {
        String text = "light 0 0 9 200 0 o " + sign + ";light 1 0 9 200 0 o " + other + ";ship 0 0 0;";
        due.is(sign + " and " + other, due.of(text).signs(0, 1), want);
    }

    private void taken() {
        due.promise(21, "TAKEN: couples of LIGHTS that must, but whose SIGNS are alike.");
        takenIs("l", "l", 1);
        takenIs("k", "k", 1);
        takenIs("l", "k", 0);
        takenIs("lk", "kl", 0);
        takenIs("l", "lk", 0);
        takenIs("k", "kk", 0);
        takenIs("llllll", "llllll", 1);
        takenIs("lllllk", "llllll", 0);
        takenIs("kkkkkl", "kkkkkk", 0);
        due.is("they need not", due.of("light 0 0 1 200 0 o l;light 7 7 1 200 0 o l;ship 0 0 0;").signs(0, 1), 0);
        due.is("none by day's oil", due.of("light 0 0 9 0 0 o l;light 1 0 9 200 0 o l;ship 0 0 0;").signs(0, 1), 0);
        due.is("couples count once", due.of("light 0 0 9 200 0 o l;light 1 0 9 200 0 o l;ship 0 0 0;ship 1 1 0;").signs(0, 1), 1);
    }

    /** Of flashes told as l, k and ?, the first one first. */
    private static int who(SailingLights x, String flashes) {
        int row = 0;
        for (int i = flashes.length() - 1; i >= 0; i--) {
            row = 3 * row + (flashes.charAt(i) == 'l' ? 1 : flashes.charAt(i) == '?' ? 2 : 0);
        }
        return x.who(row, flashes.length());
    }

    private void who() {
        due.promise(22, "WHO: a row of flashes was seen (1 to 12; each short 0, long 1, or unknown 2), of a SIGN that goes on over and "
            + "over, from any flash on: LIGHTS whose it may be, as bits.");
        SailingLights x = due.of("light 0 0 1 0 0 o l;light 1 0 1 0 0 o k;light 2 0 1 0 0 o lk;light 3 0 1 0 0 o llklkk;"
            + "light 4 0 1 0 0 o kkkkkl;");
        due.is("long", who(x, "l"), 29);
        due.is("short", who(x, "k"), 30);
        due.is("unknown", who(x, "?"), 31);
        due.is("one flash over and over", who(x, "llllllllllll"), 1);
        due.is("another one", who(x, "kkkkkkkkkkkk"), 2);
        due.is("unknown over and over", who(x, "????????????"), 31);
        due.is("two by turns", who(x, "lklklklklklk"), 4);
        due.is("from the second on", who(x, "klklklklklkl"), 4);
        due.is("six, twice", who(x, "llklkkllklkk"), 8);
        due.is("six, from the fifth on", who(x, "kkllklkkllkl"), 8);
        due.is("from the last one on", who(x, "lkkkkkl"), 16);
        due.is("over the end", who(x, "kkkkklkkkkk"), 16);
        due.is("not six short ones", who(x, "kkkkkk"), 2);
        due.is("unknown between", who(x, "l?????l"), 29);
        due.is("unknown between, one less", who(x, "l????l"), 9);
        due.promise(22, "WHO, as bits: the i-th flash is the i-th digit by threes (the first one the lowest), many of them.");
        due.is("long, long, short, long, short, short", x.who(1 + 3 + 27, 6), 8);
        due.is("the other way round there is none", x.who(1 + 3 + 81, 6), 0);
        due.is("short ones at the end are of the row", x.who(1, 2), 28);
        due.is("more of them", x.who(1, 6), 16);
        due.is("a row of twelve", x.who(1, 12), 0);
    }

    private void whoThrows() {
        due.promise(22, "IllegalArgumentException: not 1 to 12, a row below 0 or with more digits.");
        SailingLights x = due.of("light 0 0 1 0 0 o l;");
        for (int many : new int[] {0, -1, 13, Integer.MIN_VALUE, Integer.MAX_VALUE}) {
            due.unfit("who(0, " + many + ")", () -> x.who(0, many));
        }
        int rows = 1;
        for (int many = 1; many <= 12; many++) {
            rows *= 3;
            int length = many;
            int last = rows - 1;
            due.is("who(" + last + ", " + many + ")", x.who(last, many), 1);
            due.is("who(0, " + many + ")", x.who(0, many), 0);
            due.unfit("who(" + rows + ", " + many + ")", () -> x.who(last + 1, length));
            due.unfit("who(-1, " + many + ")", () -> x.who(-1, length));
            due.unfit("who(most, " + many + ")", () -> x.who(Integer.MAX_VALUE, length));
            due.unfit("who(least, " + many + ")", () -> x.who(Integer.MIN_VALUE, length));
        }
    }

    private void visitsAre(String text, int hour, int... ships) {
        SailingLights x = due.of(text);
        due.is("visits(" + hour + ") of " + text, x.visits(hour), 1);
        for (int light = 0; light < ships.length; light++) {
            due.is("visit(" + light + ", " + hour + ") of " + text, x.visit(light, hour), ships[light]);
        }
    }

    private void visits() {
        due.promise(24, "VISITS in an HOUR: each LIGHT would have the SHIP nearest to it (of like ones the least) rather than those "
            + "farther off, each SHIP the LIGHT whose REACH less how FAR it is is most (of like ones the least) rather than others;");
        visitsAre(lightAt(3, 0) + "ship 5 0 0;ship 2 0 0;", 0, 1);
        visitsAre(lightAt(3, 0) + "ship 5 0 0;ship 1 0 0;", 0, 0);
        visitsAre(lightAt(3, 3) + "ship 5 5 0;ship 5 3 0;ship 1 1 0;", 0, 0);
        visitsAre(lightAt(0, 0) + lightAt(2, 0) + "ship 1 0 0;", 0, 0, -1);
        visitsAre("light 0 0 1 0 0 o l;light 3 0 2 0 0 o l;ship 1 0 0;", 0, 0, -1);
        visitsAre("light 0 0 1 0 0 o l;light 3 0 3 0 0 o l;ship 1 0 0;", 0, -1, 0);
        visitsAre("light 0 0 12 0 0 o l;light 7 0 1 0 0 o l;ship 7 1 0;ship 6 1 0;", 0, 1, 0);
        visitsAre("sea 12 1;light 0 0 1 0 0 e l;ship 0 0 0;ship 11 0 0;", 0, 0);
        visitsAre("sea 12 1;light 0 0 1 0 0 e l;ship 0 0 0;ship 11 0 0;", 6, 1);
        visitsAre("sea 12 1;light 0 0 1 0 0 e l;ship 0 0 0;ship 11 0 0;", 239, 1);
        SailingLights alone = due.of("sea 12 1;light 0 0 1 0 0 e l;ship 0 0 0;ship 11 0 0;");
        due.is("asked at first", alone.visit(0, 9), 1);
        due.is("in another hour", alone.visit(0, 3), 0);
        alone.moor(0, 10);
        due.is("moored", alone.visit(0, 3), 0);
        alone.moor(1, 2);
        due.is("the other is nearer", alone.visit(0, 3), 1);
        due.promise(24, "all anybody rather than nobody.");
        visitsAre("sea 12 12;light 0 0 1 0 0 o l;ship 11 11 0;", 0, 0);
        visitsAre("sea 12 12;light 0 0 1 0 0 o l;light 1 0 1 0 0 o l;ship 1 1 0;ship 11 11 0;", 0, 0, 1);
        visitsAre("sea 12 1;cape 1 0;light 0 0 1 0 0 o l;ship 2 0 0;", 3, 0);
        due.promise(24, "VISITS: the SHIP that a LIGHT has; NONE: none.");
        visitsAre(lightAt(0, 0), 0, -1);
        visitsAre("light 0 0 5 0 0 o l;light 1 0 4 0 0 o l;light 2 0 3 0 0 o l;light 3 0 2 0 0 o l;light 4 0 1 0 0 o l;ship 0 1 0;",
            12, 0, -1, -1, -1, -1);
        visitsAre("light 0 0 5 0 0 o l;ship 7 7 0;ship 7 6 0;ship 7 5 0;ship 7 4 0;ship 7 3 0;ship 7 2 0;ship 7 1 0;ship 6 0 0;", 0, 7);
    }

    private void stable() {
        due.promise(23, "Couples are STABLE, if no LIGHT and SHIP would rather have each other than what they have: how many such "
            + "matchings there are; whom a LIGHT has in that which is best for LIGHTS; none.");
        // Both would have ship 0; it would rather have light 1, so light 0 has the other.
        visitsAre("light 0 0 5 0 0 o l;light 3 0 6 0 0 o l;ship 1 0 0;ship 6 0 0;", 0, 0, 1);
        visitsAre("light 0 0 5 0 0 o l;light 3 0 7 0 0 o l;ship 1 0 0;ship 7 0 0;", 0, 1, 0);
        visitsAre("light 0 0 5 0 0 o l;light 2 0 5 0 0 o l;ship 1 0 0;ship 7 0 0;", 0, 0, 1);
        visitsAre("light 0 0 3 0 0 o l;light 1 0 9 0 0 o l;light 2 0 5 0 0 o l;ship 0 1 0;ship 7 7 0;", 0, -1, 0, 1);
        due.promise(23, "VISITS: how many STABLE matchings there are.");
        due.is("nobody at all", new SailingLights().visits(0), 1);
        due.is("lights alone", due.of(lightAt(0, 0) + lightAt(1, 0)).visits(239), 1);
        due.is("ships alone", due.of("ship 0 0 0;ship 1 0 0;").visits(0), 1);
        // By reach less how far it is both sides would order all couples alike, so it is ever just one.
        StringBuilder full = new StringBuilder("sea 12 12;");
        for (int i = 0; i < 5; i++) {
            full.append("light ").append(3 * i % 11).append(' ').append(i).append(' ').append(12 - i).append(" 0 0 nesw l;");
        }
        for (int i = 0; i < 8; i++) {
            full.append("ship ").append(i).append(' ').append(11 - i).append(" 0;");
        }
        SailingLights x = due.of(full.toString());
        for (int hour = 0; hour < 240; hour += 17) {
            due.is("five and eight", x.visits(hour), 1);
        }
        due.is("all alike", due.of("light 0 3 1 0 0 o l;light 6 3 1 0 0 o l;ship 3 0 0;ship 3 6 0;").visits(0), 1);
    }
}
