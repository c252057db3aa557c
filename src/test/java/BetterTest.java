/** Promises 25 to 27 and 32 to 40: laws compared, moorings, games, years, fathers, journeys, better starts. */
final class BetterTest {
    private static final Due DUE = new Due("BetterTest");
    private static final String COAST =
        "sea 6 4;cape 3 1;light 0 0 5 100 3 e l;light 5 3 4 3 7 o k;ship 2 0 3;ship 5 1 12;fog 0;";
    /** Both lights want cell 1 from hour 1 to 11 and 13 to 23: light 0 is seen from the ship, if it goes first. */
    private static final String RIVALS =
        "sea 4 1;light 0 0 1 200 3 eoooooooooow l;light 2 0 1 0 7 wooooooooooe l;ship 2 0 0;";

    public static void main(String[] args) {
        compared();
        best();
        mooring();
        game();
        years();
        father();
        journey();
        brightest();
        sparing();
        start();
        alone();
        quarrels();
        DUE.end();
    }

    private static void compared() {
        DUE.promise(25);
        DUE.is("compared(-1)", DUE.of(COAST).compared(-1), 200);
        SailingLights x = DUE.of(RIVALS + "yields 0-rank;yields rank;");
        DUE.is("by none", x.compared(-1), 0);
        DUE.is("by law 0", x.compared(0), 110);
        DUE.is("by law 1", x.compared(1), 0);
        DUE.is("the law in force stays", x.count(6), 0);
        DUE.is("no act", x.count(7), 0);
        DUE.missing("compared(2)", () -> x.compared(2));
        DUE.missing("compared(-2)", () -> x.compared(-2));
    }

    private static void best() {
        DUE.promise(26);
        DUE.is("without laws", DUE.of(COAST).best(), -1);
        DUE.is("law 1", DUE.of(RIVALS + "yields rank;yields 0-rank;yields 0-light;").best(), 1);
        DUE.is("none ahead of like ones", DUE.of(RIVALS + "yields rank;yields light;").best(), -1);
        DUE.is("law 0 ahead of like ones", DUE.of(RIVALS + "yields 0-rank;yields 0-light;").best(), 0);
    }

    private static void mooring() {
        DUE.promise(27);
        SailingLights x = DUE.of(COAST);
        DUE.is("mooring(0, 0, 0)", x.mooring(0, 0, 0), 0);
        DUE.is("mooring(0, 0, 1)", x.mooring(0, 0, 1), 12);
        DUE.missing("mooring(0, 0, 2)", () -> x.mooring(0, 0, 2));
        DUE.missing("mooring(2, 0, 0)", () -> x.mooring(2, 0, 0));
        DUE.missing("mooring(0, 10, 0)", () -> x.mooring(0, 10, 0));
        SailingLights y = DUE.of("sea 6 1;cape 1 0;light 5 0 2 8 0 o l;ship 3 0 0;ship 0 0 0;fog 0 9;");
        DUE.is("another ship is there", y.mooring(1, 0, 0), 4);
        DUE.is("how much", y.mooring(1, 0, 1), 8);
        DUE.is("its own may be", y.mooring(0, 0, 0), 3);
        DUE.is("all alike: the least free", y.mooring(1, 1, 0), 0);
        DUE.is("all alike: not where the other is", y.mooring(0, 1, 0), 2);
        DUE.is("none", y.mooring(0, 1, 1), 0);
        DUE.is("nothing was moored", y.ship(1, 0), 0);
        SailingLights fog = DUE.of("sea 6 1;light 5 0 3 99 0 o l;ship 0 0 0;fog 1;");
        DUE.is("nearer in a fog", fog.mooring(0, 0, 0), 3);
        DUE.is("behind a cape", DUE.of("sea 4 1;cape 1 0;light 0 0 9 99 0 o l;ship 3 0 0;").mooring(0, 0, 0), 0);
    }

    private static void game() {
        DUE.promise(32);
        SailingLights x = DUE.of(COAST);
        DUE.is("game: couples", x.game(0, 1, 0, 4, 0), 1);
        DUE.is("game: the first", x.game(0, 1, 0, 4, 1), 10);
        DUE.is("game: the other way round", x.game(1, 0, 0, 4, 1), 1);
        DUE.is("in a night without oil for it", x.game(0, 1, 9, 4, 1), 10);
        SailingLights y = DUE.of("sea 9 1;light 0 0 1 0 0 o l;light 2 0 1 0 0 o l;light 8 0 1 200 0 o l;ship 1 0 0;");
        DUE.is("one of both: two couples", y.game(0, 1, 0, 4, 0), 2);
        DUE.is("one of both: the first", y.game(0, 1, 0, 4, 1), 1);
        DUE.is("for nothing: three", y.game(0, 1, 0, 0, 0), 3);
        DUE.is("as dear as it gains: three", y.game(0, 1, 0, 5, 0), 3);
        DUE.is("too dear: one", y.game(0, 1, 0, 6, 0), 1);
        DUE.is("too dear: neither", y.game(0, 1, 0, 99, 1), 0);
        SailingLights z = DUE.of("sea 9 1;light 0 0 1 0 0 o l;light 2 0 1 0 0 o l;light 1 0 1 200 0 o l;ship 1 0 0;");
        DUE.is("a third one is seen there", z.game(0, 1, 0, 1, 0), 1);
        DUE.is("so neither burns", z.game(0, 1, 0, 1, 1), 0);
        SailingLights nobody = DUE.of("light 0 0 1 0 0 o l;light 2 0 1 0 0 o l;");
        DUE.is("nothing to gain or to lose: all", nobody.game(0, 1, 0, 0, 0), 4);
        DUE.is("neither is the first", nobody.game(0, 1, 0, 0, 1), 0);
        SailingLights fog = DUE.of("light 0 0 3 0 0 o l;light 7 7 3 0 0 o l;ship 3 0 0;fog 0 1;");
        DUE.is("seen without a fog", fog.game(0, 1, 0, 1, 1), 10);
        DUE.is("not in a fog", fog.game(0, 1, 1, 1, 1), 0);
        DUE.missing("what ahead", () -> x.game(0, 0, 0, 100, 2));
        DUE.missing("night ahead", () -> x.game(0, 0, 10, 100, 0));
        DUE.missing("light ahead", () -> x.game(2, 2, 0, 100, 0));
        DUE.missing("other ahead", () -> x.game(0, -1, 0, 100, 0));
        DUE.unfit("both are one", () -> x.game(1, 1, 0, 4, 0));
        DUE.unfit("so much", () -> x.game(0, 1, 0, 100, 0));
        DUE.unfit("so little", () -> x.game(0, 1, 0, -1, 0));
    }

    private static void years() {
        DUE.promise(33);
        SailingLights x = DUE.of("ship 0 0 0;ship 1 0 1;");
        DUE.is("without lights: together", x.years(5, 3, 0), 3);
        DUE.is("without lights: the fewest", x.years(5, 3, 1), 1);
        DUE.is("without lights: all", x.years(5, 3, 2), 0);
        DUE.is("no nights: together", x.years(5, 0, 0), 0);
        DUE.is("no nights: the fewest", x.years(5, 0, 1), 0);
        DUE.is("no nights: all", x.years(5, 0, 2), 0);
        DUE.is("no ships", new SailingLights().years(7, 40, 2), 40);
        // Seed 1 becomes 1103527590 (bits 16 to 30: 16838), 2524885223 (5758), 662824084 (10113), 3295386010 (17515),
        // 4182499122 (31051), 2516284547 (5627): fogs 3 and 7, steps down and left (not off the sea); the fogs alone
        // would be 8 and 8 without lights.
        SailingLights y = DUE.of("sea 1 9;light 0 0 4 200 0 o l;ship 0 1 12;");
        DUE.is("in fog 3 it is near enough", y.years(1, 1, 0), 1);
        DUE.is("in fog 7 it isn't", y.years(1, 2, 0), 1);
        DUE.is("the fewest", y.years(1, 2, 1), 0);
        DUE.is("all", y.years(1, 2, 2), 1);
        SailingLights near = DUE.of("sea 1 9;light 0 0 3 200 0 o l;ship 0 1 12;");
        DUE.is("it begins a step down, in the ship's cell", near.years(1, 1, 0), 1);
        SailingLights capes = DUE.of("sea 1 9;cape 0 1;light 0 0 3 200 0 o l;ship 0 0 12;");
        DUE.is("a cape: it begins where it did", capes.years(1, 1, 0), 1);
        DUE.is("nothing was pushed", near.light(0, 0), 0);
        DUE.missing("what ahead", () -> x.years(0, 41, 3));
        DUE.unfit("n 41", () -> x.years(0, 41, 0));
        DUE.unfit("n -1", () -> x.years(0, -1, 0));
    }

    private static void father() {
        DUE.promise(34);
        SailingLights x = DUE.of("light 0 0 9 200 0 o l;light 4 0 9 5 0 o l;light 3 0 1 200 0 o l;ship 2 0 0;ship 6 3 0;");
        DUE.is("the nearest", x.father(0, 12), 2);
        DUE.is("by day none", x.father(0, 11), -1);
        DUE.is("nearest that is seen", x.father(1, 12), 1);
        DUE.is("later", x.father(1, 17), 0);
        SailingLights like = DUE.of("light 0 0 9 200 0 o l;light 4 0 9 200 0 o l;ship 2 0 0;");
        DUE.is("of like ones the least", like.father(0, 12), 0);
        DUE.missing("father(2, 0)", () -> x.father(2, 0));
        DUE.missing("father(0, 240)", () -> x.father(0, 240));
    }

    private static void journey() {
        DUE.promise(35);
        SailingLights x = DUE.of(COAST);
        DUE.is("travels", x.journey(0, 0), 5);
        DUE.is("stuck", x.journey(0, 1), 234);
        DUE.is("shows", x.journey(0, 2), 200);
        DUE.is("travels", x.journey(1, 0), 0);
        DUE.is("a stay is not stuck", x.journey(1, 1), 0);
        DUE.is("shows", x.journey(1, 2), 3);
        SailingLights y = DUE.of("sea 3 1;light 0 0 1 0 0 ewo l;");
        DUE.is("to and fro", y.journey(0, 0), 160);
        DUE.is("never stuck", y.journey(0, 1), 0);
        DUE.missing("journey(0, 3)", () -> x.journey(0, 3));
        DUE.missing("journey(2, 0)", () -> x.journey(2, 0));
    }

    private static void brightest() {
        DUE.promise(36);
        DUE.is("brightest()", DUE.of(COAST).brightest(), 0);
        SailingLights x = DUE.of("light 0 0 9 10 0 o l;light 1 0 9 11 0 o l;light 2 0 9 11 0 o l;ship 0 0 0;ship 7 7 0;");
        DUE.is("the most, of like ones the least", x.brightest(), 1);
        DUE.is("none shows", DUE.of("light 0 0 1 0 0 o l;light 1 0 1 0 0 o l;").brightest(), 0);
        DUE.is("no lights", DUE.of("ship 0 0 0;").brightest(), -1);
    }

    private static void sparing() {
        DUE.promise(37);
        SailingLights x = DUE.of(COAST);
        DUE.is("sparing(0)", x.sparing(0), 100);
        DUE.is("sparing(1)", x.sparing(1), 0);
        DUE.missing("sparing(2)", () -> x.sparing(2));
        DUE.is("no more than there are hours", DUE.of("light 0 0 9 200 0 o l;ship 0 0 0;").sparing(0), 120);
        DUE.is("only while it is near", DUE.of("sea 12 1;light 0 0 3 200 0 eoooo l;ship 0 0 0;").sparing(0), 4);
        // With less oil it yields and never comes to the ship.
        SailingLights law = DUE.of(RIVALS + "yields oil*(light=0)+150*light;");
        DUE.is("the law looks at oil", law.sparing(0), 150);
        DUE.is("nothing was filled", law.light(0, 2), 200);
    }

    private static void start() {
        DUE.promise(38);
        SailingLights x = DUE.of(COAST);
        DUE.is("start(1, 0)", x.start(1, 0), 1);
        DUE.is("start(1, 1)", x.start(1, 1), 200);
        DUE.missing("start(0, 2)", () -> x.start(0, 2));
        DUE.missing("start(2, 0)", () -> x.start(2, 0));
        SailingLights y = DUE.of("sea 9 1;cape 4 0;light 0 0 1 200 0 o l;light 5 0 1 0 0 o l;ship 6 0 0;ship 8 0 0;");
        DUE.is("between both ships", y.start(0, 0), 7);
        DUE.is("how much", y.start(0, 1), 240);
        DUE.is("nothing was pushed", y.light(0, 0), 0);
        SailingLights z = DUE.of("sea 3 1;light 0 0 1 200 0 o l;light 2 0 1 0 0 o l;ship 2 0 0;");
        DUE.is("not where another begins", z.start(0, 0), 1);
        DUE.is("all alike: the least", z.start(1, 0), 1);
    }

    private static void alone() {
        DUE.promise(39);
        SailingLights x = DUE.of("light 0 0 2 200 0 o l;light 2 0 2 5 0 o l;ship 0 0 0;ship 1 0 0;ship 4 0 0;ship 7 7 0;"
            + "ship 0 2 0;");
        DUE.is("one ship sees light 1 alone", x.alone(0), 1);
        DUE.is("later three see light 0 alone", x.alone(1), 3);
        DUE.missing("alone(10)", () -> x.alone(10));
        DUE.missing("alone(-1)", () -> x.alone(-1));
    }

    private static void quarrels() {
        DUE.promise(40);
        SailingLights x = DUE.of("light 0 0 1 0 3 e l;light 1 0 1 0 7 w l;");
        DUE.is("face to face", x.quarrels(-1), 478);
        DUE.missing("quarrels(0)", () -> x.quarrels(0));
        DUE.missing("quarrels(-2)", () -> x.quarrels(-2));
        SailingLights y = DUE.of("sea 3 1;light 0 0 1 0 0 e l;light 1 0 1 0 0 e l;yields light;");
        DUE.is("by rank light 0 is hindered at first, and at the end", y.quarrels(-1), 238);
        DUE.is("by law 0 only at the end", y.quarrels(0), 238);
        SailingLights z = DUE.of("sea 4 1;cape 3 0;light 0 0 1 0 0 eoooooooooow l;light 1 0 1 0 0 eoooooooooow l;yields light;");
        DUE.is("by rank going out, in hours 0 to 228", z.quarrels(-1), 20);
        DUE.is("by law 0 coming home, in hours 11 to 227", z.quarrels(0), 19);
        DUE.is("the edge and capes are no quarrel", DUE.of("sea 2 1;cape 1 0;light 0 0 1 0 0 nesw l;").quarrels(-1), 0);
    }
}
