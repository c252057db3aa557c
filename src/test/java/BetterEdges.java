/** Every boundary case of promises 25 to 27 and 32 to 40, each under the words that name it. */
final class BetterEdges {
    /** Light 0 is seen from the ship in hours 13 to 23, if it is ahead of light 1 in hour 12. */
    private static final String RIVALS =
        "sea 4 1;light 0 0 1 %d 3 eoooooooooow l;light 2 0 1 0 7 wooooooooooe l;ship 2 0 0;";

    private final Due due;

    private BetterEdges(Due due) {
        this.due = due;
    }

    static void run(Due due) {
        BetterEdges edges = new BetterEdges(due);
        edges.compared();
        edges.best();
        edges.mooring();
        edges.gameChoices();
        edges.gameGains();
        edges.gameThrows();
        edges.yearsOfFog();
        edges.yearsOfStorms();
        edges.yearsAsNightNull();
        edges.yearsAnswers();
        edges.father();
        edges.travels();
        edges.stuck();
        edges.shows();
        edges.brightest();
        edges.sparing();
        edges.start();
        edges.alone();
        edges.quarrels();
    }

    private static String row(String line, int many) {
        StringBuilder s = new StringBuilder();
        for (int i = 0; i < many; i++) {
            s.append(String.format(line, i));
        }
        return s.toString();
    }

    private void compared() {
        due.promise(25, "COMPARED by a LAW (none: by RANK): the sum of WATCHES of all SHIPS over all ten NIGHTS.");
        due.is("no ships", due.of("light 0 0 1 200 0 o l;").compared(-1), 0);
        due.is("no lights", due.of("ship 0 0 0;").compared(-1), 0);
        due.is("one ship, all nights", due.of("light 0 0 1 200 0 o l;ship 0 0 0;").compared(-1), 120);
        due.is("eight ships, all nights", due.of("light 0 0 12 200 0 o l;" + row("ship %d 7 0;", 8)).compared(-1), 960);
        due.is("one hour", due.of("light 0 0 12 1 0 o l;ship 0 0 0;").compared(-1), 1);
        due.is("the last hour", due.of("light 0 0 12 120 0 o l;ship 0 0 0;").compared(-1), 120);
        due.is("not twice an hour", due.of("light 0 0 12 9 0 o l;light 1 0 12 9 0 o l;ship 0 0 0;").compared(-1), 9);
        due.promise(25, "COMPARED by a LAW (NONE: by RANK).");
        SailingLights x = due.of(String.format(RIVALS, 200) + "yields 0-rank;yields rank;yields 1;");
        int[] want = {0, 110, 0, 110};
        for (int force = -1; force < 3; force++) {
            x.obey(force);
            for (int law = -1; law < 3; law++) {
                due.is("compared(" + law + ") under " + force, x.compared(law), want[law + 1]);
            }
            due.is("the law in force stays", x.count(6), force);
        }
        due.is("acts were but four", x.count(7), 4);
    }

    private void best() {
        due.promise(26, "THE BEST LAW: by which it is most (of like ones none ahead of LAWS in their order).");
        String rivals = String.format(RIVALS, 200);
        due.is("none ahead of a like one", due.of(rivals + "yields rank;").best(), -1);
        due.is("none ahead of three like ones", due.of(rivals + "yields rank;yields light;yields rank+1;").best(), -1);
        due.is("the first of three like ones", due.of(rivals + "yields 0-rank;yields 1;yields 0-light;").best(), 0);
        due.is("the second", due.of(rivals + "yields rank;yields 1;yields 0-light;").best(), 1);
        due.is("the third", due.of(rivals + "yields rank;yields light;yields 0-light;").best(), 2);
        due.is("more ahead of less", due.of(rivals + "yields 1;yields rank;yields light;").best(), 0);
        due.promise(26, "THE BEST LAW; NONE: by RANK.");
        due.is("no laws", due.of(rivals).best(), -1);
        due.is("nothing at all", new SailingLights().best(), -1);
        due.is("no lights", due.of("ship 0 0 0;yields 1;").best(), -1);
        String good = "sea 4 1;light 0 0 1 200 9 eoooooooooow l;light 2 0 1 0 7 wooooooooooe l;ship 2 0 0;yields 0-rank;";
        SailingLights x = due.of(good);
        due.is("by rank it is more", x.best(), -1);
        due.is("the law in force stays", x.count(6), 0);
        // Light 0 is ahead in the last night, in the last four, in all.
        String last = "yields (light=1)+2*(light=0)*(oil<100);";
        String lastFour = "yields (light=1)+2*(light=0)*(oil<140);";
        String all = "yields 0-light;";
        due.is("one night", due.of(rivals + last).compared(0), 11);
        due.is("four nights", due.of(rivals + lastFour).compared(0), 44);
        due.is("the last of three", due.of(rivals + last + lastFour + all).best(), 2);
        due.is("the second of three", due.of(rivals + last + all + lastFour).best(), 1);
        due.is("the first of three", due.of(rivals + all + last + lastFour).best(), 0);
        due.is("the better of two", due.of(rivals + last + lastFour).best(), 1);
    }

    private void mooring() {
        due.promise(27, "A MOORING for a SHIP in a NIGHT: the CELL (no CAPE, no other SHIP; its own may be) at which its WATCH would be "
            + "most (of like ones the least): which; how much.");
        mooringIs("sea 1 1;ship 0 0 0;", 0, 0, 0, 0);
        mooringIs("sea 3 1;cape 0 0;ship 2 0 0;ship 1 0 0;", 0, 0, 2, 0);
        mooringIs("sea 3 1;cape 0 0;ship 2 0 0;ship 1 0 0;", 1, 9, 1, 0);
        mooringIs("sea 6 1;light 5 0 1 200 0 o l;ship 0 0 0;", 0, 0, 4, 12);
        mooringIs("sea 6 1;light 5 0 1 200 0 o l;ship 4 0 0;", 0, 0, 4, 12);
        mooringIs("sea 6 1;light 5 0 1 200 0 o l;ship 0 0 0;ship 4 0 0;", 0, 0, 5, 12);
        mooringIs("sea 6 1;cape 4 0;light 5 0 3 200 0 o l;ship 0 0 0;", 0, 0, 5, 12);
        mooringIs("sea 6 1;cape 4 0;light 5 0 3 200 0 o l;ship 0 0 0;ship 5 0 0;", 0, 0, 0, 0);
        mooringIs("sea 6 1;light 5 0 5 200 0 o l;ship 3 0 0;", 0, 0, 0, 12);
        mooringIs("sea 12 12;light 11 11 1 200 0 o l;ship 0 0 0;ship 10 10 0;ship 11 10 0;ship 10 11 0;", 0, 9, 143, 12);
        mooringIs("sea 6 1;light 0 0 3 5 0 o l;light 5 0 1 6 0 o l;ship 0 0 0;", 0, 0, 4, 6);
        mooringIs("sea 6 1;light 0 0 3 6 0 o l;light 5 0 1 6 0 o l;ship 3 0 0;", 0, 0, 0, 6);
        mooringIs("sea 12 1;light 0 0 1 200 0 e l;ship 0 0 0;", 0, 0, 10, 12);
        due.promise(27, "A MOORING: the CELL (what 0), how much (1).");
        SailingLights x = due.of("sea 6 1;light 5 0 3 13 0 o l;ship 0 0 0;fog 2 0 2;");
        int[][] want = {{4, 12}, {2, 1}, {0, 0}};
        for (int night = 0; night < 3; night++) {
            due.is("which in night " + night, x.mooring(0, night, 0), want[night][0]);
            due.is("how much in night " + night, x.mooring(0, night, 1), want[night][1]);
        }
        due.is("it was not moored", x.ship(0, 0), 0);
        due.is("no act", x.count(7), 0);
    }

    private void mooringIs(String text, int ship, int night, int cell, int much) {
        SailingLights x = due.of(text);
        due.is("which in " + text, x.mooring(ship, night, 0), cell);
        due.is("how much in " + text, x.mooring(ship, night, 1), much);
    }

    private void gameIs(String text, int night, int much, int resting, int first) {
        SailingLights x = due.of(text);
        due.is("couples for " + much + " in " + text, x.game(0, 1, night, much, 0), resting);
        due.is("the first for " + much + " in " + text, x.game(0, 1, night, much, 1), first);
    }

    private void gameChoices() {
        due.promise(32, "A couple RESTS, if neither gains more by its other choice: how many; the first (10 by the first one's choice, and "
            + "the other one's).");
        String lights = "sea 12 12;light 0 0 1 0 0 o l;light 6 0 1 0 0 o l;";
        gameIs(lights, 0, 0, 4, 0);
        gameIs(lights, 0, 1, 1, 0);
        gameIs(lights, 0, 99, 1, 0);
        gameIs(lights + "ship 0 0 0;", 0, 0, 2, 10);
        gameIs(lights + "ship 0 0 0;", 0, 4, 1, 10);
        gameIs(lights + "ship 0 0 0;", 0, 5, 2, 0);
        gameIs(lights + "ship 0 0 0;", 0, 6, 1, 0);
        gameIs(lights + "ship 6 0 0;", 0, 0, 2, 1);
        gameIs(lights + "ship 6 0 0;", 0, 4, 1, 1);
        gameIs(lights + "ship 6 0 0;", 0, 5, 2, 0);
        gameIs(lights + "ship 0 0 0;ship 6 0 0;", 0, 0, 1, 11);
        gameIs(lights + "ship 0 0 0;ship 6 0 0;", 0, 4, 1, 11);
        gameIs(lights + "ship 0 0 0;ship 6 0 0;", 0, 5, 4, 0);
        gameIs(lights + "ship 0 0 0;ship 6 0 0;", 0, 6, 1, 0);
        String near = "sea 12 12;light 0 0 1 0 0 o l;light 2 0 1 0 0 o l;ship 1 0 0;";
        gameIs(near, 0, 0, 3, 1);
        gameIs(near, 0, 4, 2, 1);
        gameIs(near, 0, 5, 3, 0);
        gameIs(near, 0, 6, 1, 0);
        gameIs(near + "ship 0 0 0;", 0, 6, 1, 10);
        gameIs(near + "ship 3 0 0;", 0, 6, 1, 1);
        due.promise(32, "A GAME: how many couples rest (what 0), the first (1; NONE: none).");
        // What the other does can only take from a light's gain, so some couple ever rests.
        SailingLights x = due.of(near + "ship 0 0 0;ship 3 0 0;ship 1 1 0;");
        for (int much = 0; much <= 99; much++) {
            due.is("some couple rests for " + much, x.game(0, 1, 0, much, 0) >= 1, true);
            due.is("there is a first for " + much, x.game(0, 1, 0, much, 1) >= 0, true);
        }
        due.is("the other way round", x.game(1, 0, 0, 12, 1), 1);
        due.is("no act", x.count(7), 0);
    }

    private void gameGains() {
        due.promise(32, "A GAME of two LIGHTS in a NIGHT: each burns or not (1, 0) in it (as if it had OIL for it, all other NIGHTS, all "
            + "else as it is):");
        String alone = "sea 12 12;light 0 0 1 %d 0 o l;light 6 0 1 0 0 o l;ship 0 0 0;";
        for (int night = 0; night < 10; night++) {
            gameIs(String.format(alone, 0), night, 4, 1, 10);
            gameIs(String.format(alone, 200), night, 4, 1, 10);
            gameIs(String.format(alone, 1), night, 6, 1, 0);
        }
        // Whether they have oil or not: what doesn't burn isn't seen.
        for (int oil : new int[] {0, 1, 200}) {
            for (int otherOil : new int[] {0, 1, 200}) {
                String near = "sea 12 12;light 0 0 1 " + oil + " 0 o l;light 2 0 1 " + otherOil + " 0 o l;ship 1 0 0;";
                gameIs(near, 0, 4, 2, 1);
                gameIs(near, 9, 4, 2, 1);
                gameIs(near + "ship 0 0 0;", 0, 4, 1, 10);
            }
        }
        SailingLights x = due.of(String.format(RIVALS, 0) + "yields lit*(light=0);");
        due.is("all go as ever: it would be ahead, were it lit", x.game(0, 1, 0, 1, 0), 1);
        due.is("it isn't, so light 1 is seen", x.where(1, 13), 2);
        due.promise(32, "it gains 5 for each SHIP from which it is SEEN in some HOUR of it, and no other LIGHT is in that HOUR,");
        String eight = "light 0 0 12 0 0 o l;light 0 1 1 0 0 o l;fog 5;" + row("ship %d 7 0;", 8);
        gameIs(eight, 0, 39, 1, 10);
        gameIs(eight, 0, 40, 2, 0);
        gameIs(eight, 0, 41, 1, 0);
        // Light 1 is in sight in all hours of the night, or in all but the last, the first, one between.
        String most = "sea 12 1;light 2 0 1 0 0 o l;light 3 0 1 0 0 %s l;ship 2 0 0;";
        gameIs(String.format(most, "oooooooooooo"), 0, 4, 2, 1);
        gameIs(String.format(most, "ooooooooooew"), 0, 4, 1, 10);
        gameIs(String.format(most, "wooooooooooe"), 0, 4, 1, 10);
        gameIs(String.format(most, "ooooewoooooo"), 0, 4, 1, 10);
        String third = "sea 12 1;light 0 0 1 0 0 o l;light 11 0 1 0 0 o l;light 2 0 1 %d 0 o l;ship 1 0 0;";
        gameIs(String.format(third, 0), 0, 4, 1, 10);
        gameIs(String.format(third, 11), 0, 4, 1, 10);
        gameIs(String.format(third, 12), 0, 4, 1, 0);
        gameIs(String.format(third, 12), 1, 4, 1, 10);
        gameIs(String.format(third, 120), 9, 4, 1, 0);
        gameIs("light 0 0 3 0 0 o l;light 7 7 1 0 0 o l;ship 3 0 0;fog 0 1;", 0, 4, 1, 10);
        gameIs("light 0 0 3 0 0 o l;light 7 7 1 0 0 o l;ship 3 0 0;fog 0 1;", 1, 4, 1, 0);
        gameIs("cape 1 0;light 0 0 3 0 0 o l;light 7 7 1 0 0 o l;ship 3 0 0;", 0, 4, 1, 0);
        due.promise(32, "and loses so much (0 to 99), if it burns.");
        gameIs("light 0 0 1 0 0 o l;light 7 7 1 0 0 o l;", 0, 0, 4, 0);
        gameIs("light 0 0 1 0 0 o l;light 7 7 1 0 0 o l;", 0, 99, 1, 0);
    }

    private void gameThrows() {
        due.promise(32, "IllegalArgumentException (behind that): both are one, so much.");
        SailingLights x = due.of("light 0 0 1 0 0 o l;light 7 7 1 0 0 o l;ship 3 3 0;");
        due.unfit("both are light 0", () -> x.game(0, 0, 0, 4, 0));
        due.unfit("both are light 1", () -> x.game(1, 1, 9, 4, 1));
        for (int much : new int[] {-1, 100, Integer.MIN_VALUE, Integer.MAX_VALUE}) {
            due.unfit("so much " + much, () -> x.game(0, 1, 0, much, 0));
            due.unfit("so much, and one " + much, () -> x.game(0, 0, 0, much, 0));
            due.missing("no such light ahead of so much " + much, () -> x.game(2, 1, 0, much, 0));
            due.missing("no such other ahead of so much " + much, () -> x.game(0, 2, 0, much, 0));
            due.missing("no such night ahead of so much " + much, () -> x.game(0, 1, 10, much, 0));
            due.missing("another what ahead of so much " + much, () -> x.game(0, 1, 0, much, 2));
        }
        due.missing("no such light ahead of both being one", () -> x.game(2, 2, 0, 4, 0));
        due.missing("no such light below 0 ahead of both being one", () -> x.game(-1, -1, 0, 4, 0));
        due.missing("no such night ahead of both being one", () -> x.game(0, 0, -1, 4, 0));
        due.missing("another what ahead of both being one", () -> x.game(0, 0, 0, 4, -1));
    }

    /** Seeds and draws, by the document's words and longs that don't wrap. */
    private static final class Draws {
        private long seed;

        Draws(int seed) {
            this.seed = seed & 0xffffffffL;
        }

        int of(int n) {
            seed = (seed * 1103515245L + 12345L) % 4294967296L;
            return (int) (seed / 65536 % 32768 % n);
        }
    }

    private static final int[] SEEDS = {0, 1, -1, 5, 12345, 987654321, Integer.MIN_VALUE, Integer.MAX_VALUE};

    private void yearsOfFog() {
        due.promise(33, "then that NIGHT with the FOG that is a DRAW of 10:");
        for (int reach = 1; reach <= 12; reach++) {
            SailingLights x = due.of("sea 1 1;light 0 0 " + reach + " 12 0 n l;ship 0 0 12;fog 9;");
            for (int seed : SEEDS) {
                Draws draws = new Draws(seed);
                int seen = 0;
                for (int night = 0; night < 40; night++) {
                    draws.of(1);
                    draws.of(4);
                    seen += draws.of(10) <= reach ? 1 : 0;
                }
                due.is("reach " + reach + ", seed " + seed, x.years(seed, 40, 0), seen);
                due.is("all, reach " + reach + ", seed " + seed, x.years(seed, 40, 2), seen);
            }
        }
        due.promise(33, "A seed becomes itself times 1103515245 and 12345 (an int that wraps); a DRAW of n is its bits 16 to 30 MOD n then.");
        SailingLights x = due.of("sea 1 1;light 0 0 3 12 0 n l;ship 0 0 12;");
        // Seed 1: 1103527590, 2524885223, 662824084 (bits 16 to 30: 10113).
        due.is("a fog of 3, reach 3", x.years(1, 1, 0), 1);
        due.is("a fog of 3, reach 2", due.of("sea 1 1;light 0 0 2 12 0 n l;ship 0 0 12;").years(1, 1, 0), 0);
        due.promise(33, "(Without LIGHTS none is drawn, but the FOG.)");
        for (int seed : SEEDS) {
            due.is("without lights", due.of("ship 0 0 0;ship 1 0 1;").years(seed, 40, 0), 40);
        }
    }

    /** Lights of reach 6 in a sea of 3 by 3 that stay where they begin, with a cape in cell 5 and a ship in cell 6. */
    private static int[] stormy(int[] cells, int seed, int n) {
        int[] at = cells.clone();
        Draws draws = new Draws(seed);
        int[] found = {0, n == 0 ? 0 : 9, 0};
        for (int night = 0; night < n; night++) {
            int light = draws.of(at.length);
            int step = draws.of(4);
            int x = at[light] % 3 + new int[] {0, 1, 0, -1}[step];
            int y = at[light] / 3 + new int[] {-1, 0, 1, 0}[step];
            boolean free = x >= 0 && x < 3 && y >= 0 && y < 3 && y * 3 + x != 5;
            for (int other : at) {
                free &= other != y * 3 + x;
            }
            at[light] = free ? y * 3 + x : at[light];
            int fog = draws.of(10);
            int seen = 0;
            for (int cell : at) {
                seen |= Math.max(cell % 3, 2 - cell / 3) <= 6 - fog ? 1 : 0;
            }
            found[0] += seen;
            found[1] = Math.min(found[1], seen);
            found[2] += seen;
        }
        return found;
    }

    private void yearsOfStorms() {
        due.promise(33, "ahead of each a DRAW of LIGHTS and a DRAW of 4: that one begins a step up, right, down, left from where it began, if "
            + "it can (on THE SEA, no CAPE, no LIGHT begins there), from then on;");
        int[][] cells = {{0}, {4}, {0, 1}, {4, 8, 7}, {0, 1, 2, 3, 4}};
        for (int[] at : cells) {
            StringBuilder s = new StringBuilder("sea 3 3;cape 2 1;ship 0 2 12;");
            for (int cell : at) {
                s.append("light ").append(cell % 3).append(' ').append(cell / 3).append(" 6 12 0 o l;");
            }
            SailingLights x = due.of(s.toString());
            for (int seed : SEEDS) {
                for (int n : new int[] {0, 1, 2, 3, 7, 39, 40}) {
                    // The cape at the right side hides nothing from the ship in the lower left corner.
                    int[] want = stormy(at, seed, n);
                    for (int what = 0; what < 3; what++) {
                        due.is(s + " years(" + seed + ", " + n + ", " + what + ")", x.years(seed, n, what), want[what]);
                    }
                }
            }
            due.is("nothing was pushed", x.light(0, 0), at[0]);
        }
    }

    /** A seed of a first night whose storm leads off a sea of one row, and without a fog, for two lights. */
    private static int calmSeed() {
        for (int seed = 0; seed < 10000; seed++) {
            Draws draws = new Draws(seed);
            draws.of(2);
            if (draws.of(4) % 2 == 0 && draws.of(10) == 0) {
                return seed;
            }
        }
        return -1;
    }

    private void yearsAsNightNull() {
        due.promise(33, "YEARS by a seed: n NIGHTS (0 to 40), each as NIGHT 0, with all OIL as told, from where LIGHTS begin then:");
        SailingLights x = due.of("sea 1 1;light 0 0 12 12 0 n l;ship 0 0 12;fog 9;");
        due.is("oil for one night is enough for all", x.years(3, 40, 0), 40);
        x.fill(0, 11);
        due.is("an hour too few", x.years(3, 40, 0), 0);
        x.fill(0, 200);
        due.is("more is no matter", x.years(3, 40, 0), 40);
        // From its end of the sea it is at the other one by night.
        SailingLights far = due.of("sea 1 12;light 0 0 12 12 0 s l;ship 0 11 12;ship 0 0 1;");
        int near = 0;
        Draws draws = new Draws(8);
        for (int night = 0; night < 40; night++) {
            draws.of(1);
            draws.of(4);
            near += draws.of(10) <= 1 ? 1 : 0;
        }
        due.is("by night it is where its way leads", far.years(8, 40, 0), 40 + near);
        int seed = calmSeed();
        SailingLights law = due.of(String.format(RIVALS, 200) + "yields rank;yields 0-rank;");
        law.want(0, 11);
        due.is("by law 0 it never comes near", law.years(seed, 1, 0), 0);
        law.obey(1);
        due.is("by law 1 it does", law.years(seed, 1, 0), 1);
        law.want(0, 12);
        due.is("but not for twelve hours", law.years(seed, 1, 0), 0);
        due.promise(33, "IllegalArgumentException (behind that): n.");
        for (int n : new int[] {-1, 41, Integer.MIN_VALUE, Integer.MAX_VALUE}) {
            for (int what = 0; what < 3; what++) {
                int asked = what;
                due.unfit("n " + n, () -> x.years(1, n, asked));
            }
            due.missing("another what ahead of n " + n, () -> x.years(1, n, 3));
            due.missing("another what below 0 ahead of n " + n, () -> x.years(1, n, -1));
        }
    }

    private void yearsAnswers() {
        due.promise(33, "how many SHIPS were CONTENT, all NIGHTS together; the fewest in one; in how many all were.");
        SailingLights x = due.of("sea 12 12;light 5 5 12 12 0 o l;ship 4 4 12;ship 0 0 0;ship 11 11 1;");
        for (int seed : SEEDS) {
            Draws draws = new Draws(seed);
            int[] want = {0, 9, 0};
            int at = 5;
            int down = 5;
            for (int night = 0; night < 40; night++) {
                draws.of(1);
                int step = draws.of(4);
                at = Math.max(0, Math.min(11, at + (step == 1 ? 1 : step == 3 ? -1 : 0)));
                down = Math.max(0, Math.min(11, down + (step == 2 ? 1 : step == 0 ? -1 : 0)));
                int reach = 12 - draws.of(10);
                int content = 1;
                content += Math.max(Math.abs(at - 4), Math.abs(down - 4)) <= reach ? 1 : 0;
                content += Math.max(Math.abs(at - 11), Math.abs(down - 11)) <= reach ? 1 : 0;
                want[0] += content;
                want[1] = Math.min(want[1], content);
                want[2] += content == 3 ? 1 : 0;
            }
            for (int what = 0; what < 3; what++) {
                due.is("seed " + seed + ", what " + what, x.years(seed, 40, what), want[what]);
            }
        }
        due.promise(33, "YEARS: CONTENT (what 0), the fewest (1; 0 without NIGHTS), all (2).");
        for (int what = 0; what < 3; what++) {
            due.is("no nights, what " + what, x.years(9, 0, what), 0);
        }
        SailingLights none = new SailingLights();
        due.is("no ships: together", none.years(9, 40, 0), 0);
        due.is("no ships: the fewest", none.years(9, 40, 1), 0);
        due.is("no ships: all of them", none.years(9, 40, 2), 40);
        SailingLights eight = due.of(row("ship %d 0 0;", 8));
        due.is("eight that want none: together", eight.years(9, 40, 0), 320);
        due.is("eight that want none: the fewest", eight.years(9, 40, 1), 8);
        due.is("eight that want none: all", eight.years(9, 40, 2), 40);
        due.is("the same again", x.years(7, 40, 0), x.years(7, 40, 0));
        due.is("no act", x.count(7), 0);
    }

    private void father() {
        due.promise(34, "HIS FATHER: the LIGHT that is SEEN from a SHIP in an HOUR and nearest to it (of like ones the least); none.");
        due.is("of like ones the least", due.of("light 0 0 9 200 0 o l;light 4 0 9 200 0 o l;ship 2 0 0;").father(0, 12), 0);
        due.is("the nearest", due.of("light 0 0 9 200 0 o l;light 3 0 9 200 0 o l;ship 2 0 0;").father(0, 12), 1);
        due.is("in its own cell", due.of("light 1 0 9 200 0 o l;light 2 0 9 200 0 o l;ship 2 0 0;").father(0, 12), 1);
        due.is("slant is as far", due.of("light 0 2 9 200 0 o l;light 4 4 9 200 0 o l;ship 2 2 0;").father(0, 12), 0);
        due.is("a nearer one isn't lit", due.of("light 0 0 9 200 0 o l;light 3 0 9 0 0 o l;ship 2 0 0;").father(0, 12), 0);
        due.is("a nearer one is hidden", due.of("cape 3 0;light 4 0 9 200 0 o l;light 2 4 9 200 0 o l;ship 2 0 0;").father(0, 12), 1);
        due.is("a nearer one has less reach", due.of("light 0 0 9 200 0 o l;light 4 0 2 200 0 o l;ship 2 0 0;fog 1;").father(0, 12), 0);
        due.is("the last of five", due.of("light 0 0 9 200 0 o l;light 1 0 9 200 0 o l;light 2 0 9 200 0 o l;light 3 0 9 200 0 o l;"
            + "light 4 0 9 200 0 o l;ship 7 0 0;").father(0, 239), 4);
        due.is("as far as can be", due.of("sea 12 12;light 0 0 11 200 0 o l;ship 11 11 0;").father(0, 12), 0);
        due.promise(34, "HIS FATHER; NONE: none.");
        SailingLights x = due.of("light 0 0 9 2 0 o l;ship 2 0 0;");
        int[][] hours = {{0, -1}, {11, -1}, {12, 0}, {13, 0}, {14, -1}, {239, -1}};
        for (int[] hour : hours) {
            due.is("hour " + hour[0], x.father(0, hour[0]), hour[1]);
        }
        due.is("no lights", due.of("ship 2 0 0;").father(0, 12), -1);
    }

    private void travels() {
        due.promise(35, "TRAVELS of a LIGHT: from how many HOURS to the next one (0 to 238) it goes to another CELL;");
        due.is("ever", due.of("light 0 0 1 0 0 ew l;").journey(0, 0), 239);
        due.is("never", due.of("light 0 0 1 0 0 o l;").journey(0, 0), 0);
        due.is("off the sea it can't", due.of("sea 1 1;light 0 0 1 0 0 nesw l;").journey(0, 0), 0);
        due.is("once", due.of("sea 2 1;light 0 0 1 0 0 e l;").journey(0, 0), 1);
        due.is("in hour 0 and every twelfth", due.of("sea 12 12;light 0 0 1 0 0 eooooowooooo l;").journey(0, 0), 40);
        due.is("in hour 11 and every twelfth", due.of("sea 2 1;light 0 0 1 0 0 wooooooooooe l;").journey(0, 0), 38);
        due.is("from hour 238 to 239", due.of("sea 12 2;light 0 0 1 0 0 noooooooooso l;").journey(0, 0), 39);
    }

    private void stuck() {
        due.promise(35, "STUCK: from how many it stays, though its step isn't to stay.");
        due.is("ever", due.of("sea 1 1;light 0 0 1 0 0 nesw l;").journey(0, 1), 239);
        due.is("never, going", due.of("light 0 0 1 0 0 ew l;").journey(0, 1), 0);
        due.is("never, staying", due.of("light 0 0 1 0 0 o l;").journey(0, 1), 0);
        due.is("behind its first step", due.of("sea 2 1;light 0 0 1 0 0 e l;").journey(0, 1), 238);
        due.is("by a cape", due.of("sea 2 1;cape 1 0;light 0 0 1 0 0 e l;").journey(0, 1), 239);
        due.is("by another light", due.of("sea 2 1;light 0 0 1 0 0 e l;light 1 0 1 0 0 o l;").journey(0, 1), 239);
        due.is("the other isn't", due.of("sea 2 1;light 0 0 1 0 0 e l;light 1 0 1 0 0 o l;").journey(1, 1), 0);
        due.is("every second", due.of("sea 1 1;light 0 0 1 0 0 no l;").journey(0, 1), 120);
        due.is("every second, from the second on", due.of("sea 1 1;light 0 0 1 0 0 on l;").journey(0, 1), 119);
    }

    private void shows() {
        due.promise(35, "SHOWS: from how many SHIPS, over how many HOURS, together, a LIGHT is SEEN;");
        due.is("no ships", due.of("light 0 0 12 200 0 o l;").journey(0, 2), 0);
        due.is("no oil", due.of("light 0 0 12 0 0 o l;ship 0 0 0;").journey(0, 2), 0);
        due.is("one ship", due.of("light 0 0 12 200 0 o l;ship 0 0 0;").journey(0, 2), 120);
        due.is("eight ships", due.of("light 0 0 12 200 0 o l;" + row("ship %d 7 0;", 8)).journey(0, 2), 960);
        due.is("its last hour", due.of("light 0 0 12 120 0 o l;ship 0 0 0;ship 1 0 0;").journey(0, 2), 240);
        due.is("an hour less", due.of("light 0 0 12 119 0 o l;ship 0 0 0;ship 1 0 0;").journey(0, 2), 238);
        due.is("others are no matter", due.of("light 0 0 12 3 0 o l;light 1 0 12 200 0 o l;ship 0 0 0;").journey(0, 2), 3);
        due.promise(35, "TRAVELS (what 0), STUCK (1), SHOWS (2).");
        SailingLights x = due.of("sea 6 4;cape 3 1;light 0 0 5 100 3 e l;light 5 3 4 3 7 o k;ship 2 0 3;ship 5 1 12;");
        int[][] want = {{5, 234, 200}, {0, 0, 3}};
        for (int light = 0; light < 2; light++) {
            for (int what = 0; what < 3; what++) {
                due.is("journey(" + light + ", " + what + ")", x.journey(light, what), want[light][what]);
            }
        }
    }

    private void brightest() {
        due.promise(36, "THE BRIGHTEST: the one that SHOWS most (of like ones the least); none.");
        String three = "light 0 0 9 %d 0 o l;light 1 0 9 %d 0 o l;light 2 0 9 %d 0 o l;ship 0 0 0;";
        int[][] oils = {{5, 5, 5, 0}, {5, 6, 6, 1}, {5, 6, 7, 2}, {7, 6, 7, 0}, {0, 0, 1, 2}, {0, 0, 0, 0}, {121, 120, 122, 0}, {119, 120, 121, 1}};
        for (int[] oil : oils) {
            due.is("oil " + oil[0] + " " + oil[1] + " " + oil[2], due.of(String.format(three, oil[0], oil[1], oil[2])).brightest(), oil[3]);
        }
        due.is("more ships, fewer hours", due.of("sea 12 1;light 0 0 1 9 0 o l;light 6 0 1 5 0 o l;ship 0 0 0;ship 5 0 0;ship 7 0 0;").brightest(), 1);
        due.is("no ships", due.of("light 0 0 9 9 0 o l;light 1 0 9 99 0 o l;").brightest(), 0);
        due.promise(36, "THE BRIGHTEST; NONE: there are no LIGHTS.");
        due.is("no lights", due.of("ship 0 0 0;").brightest(), -1);
        due.is("nothing", new SailingLights().brightest(), -1);
    }

    private void sparing() {
        due.promise(37, "SPARING: the least OIL (0 to 200) of a LIGHT by which the sum of all WATCHES over all ten NIGHTS would be as much as "
            + "now, or more.");
        due.is("no ships", due.of("light 0 0 9 200 0 o l;").sparing(0), 0);
        due.is("nothing is seen", due.of("light 0 0 1 200 0 o l;ship 7 7 0;").sparing(0), 0);
        due.is("it has none", due.of("light 0 0 9 0 0 o l;ship 0 0 0;").sparing(0), 0);
        due.is("it has one", due.of("light 0 0 9 1 0 o l;ship 0 0 0;").sparing(0), 1);
        due.is("all hours", due.of("light 0 0 9 200 0 o l;ship 0 0 0;").sparing(0), 120);
        due.is("all hours but one", due.of("light 0 0 9 119 0 o l;ship 0 0 0;").sparing(0), 119);
        due.is("another does as well", due.of("light 0 0 9 99 0 o l;light 1 0 9 99 0 o l;ship 0 0 0;").sparing(0), 0);
        due.is("another does less", due.of("light 0 0 9 99 0 o l;light 1 0 9 98 0 o l;ship 0 0 0;").sparing(0), 99);
        due.is("the other of these", due.of("light 0 0 9 99 0 o l;light 1 0 9 98 0 o l;ship 0 0 0;").sparing(1), 0);
        due.is("up to its last hour in sight", due.of("light 0 0 9 200 0 o l;ship 0 0 0;fog 0 0 9 0 9 9 9 9;").sparing(0), 120);
        due.is("not in the last nights", due.of("light 0 0 1 200 0 o l;ship 1 0 0;fog 1 1 1 0 1 1 1 1;").sparing(0), 48);
        // It is ahead of light 1 while it has less than 50; two ships see it then, one of them light 2 too in two hours.
        String more = "sea 4 3;light 0 0 1 %d 0 eoooooooooow l;light 2 0 1 0 0 wooooooooooe l;light 2 2 1 2 0 o l;ship 2 1 0;ship 2 0 0;"
            + "yields (light=0)*(oil<50)*2+(light=1);";
        due.is("as much is not met, more is", due.of(String.format(more, 110)).sparing(0), 39);
        due.is("as much is met", due.of(String.format(more, 109)).sparing(0), 60);
        due.promise(37, "SPARING.");
        SailingLights x = due.of(String.format(more, 110));
        due.is("the sum now", x.compared(0), 70);
        x.sparing(0);
        due.is("nothing was filled", x.light(0, 2), 110);
        due.is("no act", x.count(7), 0);
        x.fill(0, 38);
        due.is("one less", x.compared(0), 69);
        x.fill(0, 39);
        due.is("one more", x.compared(0), 71);
    }

    private void startIs(String text, int light, int cell, int much) {
        SailingLights x = due.of(text);
        due.is("which in " + text, x.start(light, 0), cell);
        due.is("how much in " + text, x.start(light, 1), much);
    }

    private void start() {
        due.promise(38, "A START of a LIGHT: the CELL (no CAPE, no other LIGHT begins there) from which this sum would be most (of like ones "
            + "the least): which; how much.");
        startIs("sea 1 1;light 0 0 1 200 0 n l;ship 0 0 0;", 0, 0, 120);
        startIs("light 5 5 1 200 0 o l;", 0, 0, 0);
        startIs("cape 0 0;light 5 5 1 200 0 o l;light 1 0 1 0 0 o l;", 0, 2, 0);
        startIs("sea 12 12;light 0 0 1 200 0 o l;ship 11 11 0;", 0, 130, 120);
        startIs("sea 12 12;cape 10 10;cape 11 10;cape 10 11;light 0 0 1 200 0 o l;ship 11 11 0;", 0, 143, 120);
        startIs("sea 3 1;light 2 0 1 200 0 o l;light 0 0 1 0 0 o l;ship 0 0 0;", 0, 1, 120);
        startIs("sea 3 1;light 1 0 1 200 0 o l;light 0 0 1 0 0 o l;ship 0 0 0;", 0, 1, 120);
        startIs("sea 4 1;cape 1 0;light 3 0 1 200 0 o l;light 0 0 1 0 0 o l;ship 0 0 0;", 0, 2, 0);
        startIs("sea 12 1;light 5 0 1 5 0 o l;light 8 0 1 4 0 o l;ship 0 0 0;ship 8 0 0;", 1, 0, 4);
        startIs("sea 12 1;light 5 0 1 5 0 o l;light 8 0 1 4 0 o l;ship 0 0 0;ship 8 0 0;", 0, 0, 9);
        startIs("sea 12 1;light 0 0 1 200 0 e l;ship 11 0 0;", 0, 0, 120);
        startIs("sea 12 1;light 0 0 1 200 0 e l;ship 0 0 0;", 0, 0, 0);
        // In the other one's way it keeps it near the ship.
        startIs("sea 12 1;light 11 0 1 0 0 o l;light 0 0 1 200 0 e l;ship 3 0 0;", 0, 3, 120);
        due.promise(38, "A START: the CELL (what 0), how much (1).");
        SailingLights x = due.of("sea 12 1;light 0 0 1 200 0 o l;ship 6 0 0;");
        due.is("which", x.start(0, 0), 5);
        due.is("how much", x.start(0, 1), 120);
        due.is("nothing was pushed", x.light(0, 0), 0);
        due.is("no act", x.count(7), 0);
    }

    private void alone() {
        due.promise(39, "ALONE: from how many SHIPS in a NIGHT one LIGHT only is SEEN in all of it (in one HOUR or in some).");
        due.is("no ships", due.of("light 0 0 9 200 0 o l;").alone(0), 0);
        due.is("no lights", due.of("ship 0 0 0;").alone(0), 0);
        due.is("none is seen", due.of("light 0 0 1 200 0 o l;ship 7 7 0;").alone(0), 0);
        due.is("one, in one hour", due.of("light 0 0 9 1 0 o l;ship 0 0 0;").alone(0), 1);
        due.is("one, in all hours", due.of("light 0 0 9 200 0 o l;ship 0 0 0;").alone(9), 1);
        due.is("two at once", due.of("light 0 0 9 200 0 o l;light 1 0 9 1 0 o l;ship 0 0 0;").alone(0), 0);
        due.is("in the next night one", due.of("light 0 0 9 200 0 o l;light 1 0 9 12 0 o l;ship 0 0 0;").alone(1), 1);
        due.is("still two", due.of("light 0 0 9 200 0 o l;light 1 0 9 13 0 o l;ship 0 0 0;").alone(1), 0);
        String turns = "sea 12 1;light 2 0 1 6 0 o l;light 0 0 1 200 0 oooooeooooow l;ship 2 0 0;";
        due.is("two, one behind the other", due.of(turns).alone(0), 0);
        due.is("another alone", due.of(turns).alone(1), 1);
        due.promise(39, "ALONE.");
        due.is("from all eight", due.of("light 0 0 9 200 0 o l;" + row("ship %d 0 0;", 8)).alone(0), 8);
        due.is("each its own", due.of("light 0 0 1 200 0 o l;light 7 7 1 200 0 o l;ship 0 0 0;ship 7 7 0;ship 4 4 0;").alone(0), 2);
    }

    private void quarrels() {
        due.promise(40, "A LAW's QUARRELS: how often, all HOURS together, a LIGHT doesn't go where its step leads by another LIGHT alone (on THE "
            + "SEA, no CAPE).");
        due.is("no lights", new SailingLights().quarrels(-1), 0);
        due.is("the edges", due.of("sea 1 1;light 0 0 1 0 0 nesw l;").quarrels(-1), 0);
        due.is("capes", due.of("sea 3 3;cape 1 0;cape 0 1;cape 2 1;cape 1 2;light 1 1 1 0 0 nesw l;").quarrels(-1), 0);
        due.is("a stay", due.of("light 0 0 1 0 0 o l;light 1 0 1 0 0 o l;").quarrels(-1), 0);
        due.is("one ever", due.of("light 0 0 1 0 0 e l;light 1 0 1 0 0 o l;").quarrels(-1), 239);
        due.is("both ever", due.of("light 0 0 1 0 0 e l;light 1 0 1 0 0 w l;").quarrels(-1), 478);
        due.is("all five ever", due.of("light 0 0 1 0 0 e l;light 1 0 1 0 0 e l;light 2 0 1 0 0 e l;light 3 0 1 0 0 w l;light 4 0 1 0 0 w l;")
            .quarrels(-1), 1195);
        due.is("in hour 238 too", due.of("sea 3 2;light 0 0 1 0 0 oooooooooooo l;light 1 0 1 0 0 oooooooooowo l;").quarrels(-1), 20);
        due.is("ships are none", due.of("sea 2 1;light 0 0 1 0 0 ew l;ship 1 0 0;").quarrels(-1), 0);
        due.promise(40, "QUARRELS by a LAW (NONE: by RANK).");
        SailingLights x = due.of("sea 8 1;light 0 0 1 0 0 e l;light 1 0 1 0 1 e l;yields light;yields 0-light;");
        // The front one is at the edge from hour 6 on, the other one behind it: 233 or, a cell late, 232 and the first one.
        due.is("by rank the front one goes first", x.quarrels(-1), 233);
        due.is("by law 0 too", x.quarrels(0), 233);
        due.is("by law 1 the other is hindered at first", x.quarrels(1), 239 - 6);
        due.is("the law in force stays", x.count(6), 0);
        SailingLights y = due.of("sea 4 1;cape 3 0;light 0 0 1 0 0 eoooooooooow l;light 1 0 1 0 0 eoooooooooow l;yields light;"
            + "yields 0-light;");
        due.is("by rank, going out", y.quarrels(-1), 20);
        due.is("by law 0, coming home", y.quarrels(0), 19);
        due.is("by law 1, going out", y.quarrels(1), 20);
        y.obey(1);
        due.is("whatever is in force", y.quarrels(0), 19);
    }
}
