/** Every boundary case of promises 1 to 6 and of the text that tells a coast, each under the words that name it. */
final class TextEdges {
    private static final String LIGHT = "light 1 2 3 4 5 e l;";
    private static final int BLANKS = 0x20202020;

    private final Due due;

    private TextEdges(Due due) {
        this.due = due;
    }

    static void run(Due due) {
        TextEdges edges = new TextEdges(due);
        edges.newObject();
        edges.feedPutsTwentyBytes();
        edges.feedRefusesBeyond700();
        edges.coastTakesFirstBytes();
        edges.coastMakesAllAnew();
        edges.coastWithFaultLeavesAll();
        edges.coastForgets();
        edges.coastThrows();
        edges.fault();
        edges.count();
        edges.light();
        edges.sea();
        edges.capes();
        edges.lightLine();
        edges.shipLine();
        edges.fogs();
        edges.laws();
        edges.longestText();
        edges.everyByteAlone();
        edges.everyByteWithin();
        edges.tokens();
        edges.lines();
        edges.linesCutShort();
        edges.waysAndSigns();
        edges.firstFaultLeastFault();
        edges.faultOne();
        edges.faultTwo();
        edges.faultTwoDepth();
        edges.faultThree();
        edges.faultFour();
        edges.faultFive();
    }

    private void counts(SailingLights x, int... want) {
        for (int what = 0; what < want.length; what++) {
            due.is("count(" + what + ")", x.count(what), want[what]);
        }
    }

    private void newObject() {
        due.promise(1, "A SEA without all.");
        SailingLights x = new SailingLights();
        counts(x, 8, 8, 0, 0, 0, 0, -1, 0, 0, 0, 0, 0, 0);
        due.is("fault()", x.fault(), -1);
        due.missing("light(0, 0)", () -> x.light(0, 0));
        due.missing("ship(0, 0)", () -> x.ship(0, 0));
        due.missing("compared(0)", () -> x.compared(0));
        due.missing("quarrels(0)", () -> x.quarrels(0));
        for (int night = 0; night < 10; night++) {
            due.is("content", x.content(night), 0);
            due.is("lamps", x.lamps(night), 0);
            due.is("signs", x.signs(night, 0), 0);
            due.is("taken", x.signs(night, 1), 0);
            due.is("alone", x.alone(night), 0);
        }
        due.is("who", x.who(2, 1), 0);
        due.is("visits", x.visits(0), 1);
        due.is("compared(-1)", x.compared(-1), 0);
        due.is("quarrels(-1)", x.quarrels(-1), 0);
        due.is("best", x.best(), -1);
        due.is("falsely", x.falsely(), 0);
        due.is("brightest", x.brightest(), -1);
        due.is("years, together", x.years(5, 40, 0), 0);
        due.is("years, the fewest", x.years(5, 40, 1), 0);
        due.is("years, all of no ships", x.years(5, 40, 2), 40);
        due.is("undo", x.undo(), -1);
        due.is("restore", x.restore(), false);
        due.is("feed", x.feed(0, 0, 0, 0, 0), 20);
        due.promise(1, "The constants: `NONE = -1`: There is none.");
        due.is("NONE", SailingLights.NONE, -1);
    }

    private void feedPutsTwentyBytes() {
        due.promise(2, "Twenty bytes come behind the tape, of each number the highest first: how many it has;");
        SailingLights x = new SailingLights();
        due.is("the first twenty", x.feed(0x73656120, 0x35203320, 0x3b202020, BLANKS, BLANKS), 20);
        due.is("twenty more", x.feed(0x6c696768, 0x74203120, 0x32203320, 0x34203520, 0x65206c3b), 40);
        due.is("count(9)", x.count(9), 40);
        due.is("coast(40)", x.coast(40), 0);
        due.is("a sea of 5", x.count(0), 5);
        due.is("by 3", x.count(1), 3);
        due.is("the cell", x.light(0, 0), 11);
        due.is("the reach", x.light(0, 1), 3);
        due.is("the oil", x.light(0, 2), 4);
        due.is("the rank", x.light(0, 3), 5);
        for (int number = 0; number < 5; number++) {
            for (int place = 0; place < 4; place++) {
                int[] f = {BLANKS, BLANKS, BLANKS, BLANKS, BLANKS};
                int shift = 24 - 8 * place;
                f[number] = f[number] & ~(255 << shift) | 255 << shift;
                SailingLights y = new SailingLights();
                y.feed(f[0], f[1], f[2], f[3], f[4]);
                due.is("byte 255", y.coast(20), 1);
                due.is("its place", y.fault(), 4 * number + place);
            }
        }
        SailingLights y = new SailingLights();
        y.feed(-1, BLANKS, BLANKS, BLANKS, BLANKS);
        due.is("numbers below 0 are bytes too", y.coast(4), 1);
        y.feed(Integer.MIN_VALUE, 0, 0, 0, 0);
        due.is("the tape was empty", y.count(9), 20);
    }

    private void feedRefusesBeyond700() {
        due.promise(2, "NONE, and none come, if it would have more than 700.");
        SailingLights x = new SailingLights();
        for (int i = 1; i <= 35; i++) {
            due.is("feed " + i, x.feed(BLANKS, BLANKS, BLANKS, BLANKS, BLANKS), 20 * i);
        }
        for (int i = 0; i < 3; i++) {
            due.is("feed beyond", x.feed(-1, -1, -1, -1, -1), -1);
            due.is("count(9)", x.count(9), 700);
        }
        due.unfit("coast(701)", () -> x.coast(701));
        due.is("none came", x.coast(700), 0);
        due.is("it counts as none of the refused", x.count(10) + x.count(11) + x.count(12), 0);
        due.is("feed behind coast", x.feed(BLANKS, BLANKS, BLANKS, BLANKS, BLANKS), 20);
    }

    private void coastTakesFirstBytes() {
        due.promise(3, "The tape's first n bytes (it is empty then) are a COAST, all anew: 0, or the FAULT (all stays).");
        SailingLights x = new SailingLights();
        due.is("coast(0) of an empty tape", x.coast(0), 0);
        Due.feedAll(x, LIGHT + "cape 1 1;cape 2 1;x ");
        due.is("all but the last two", x.coast(38), 0);
        due.is("the tape is empty", x.count(9), 0);
        due.is("two capes", x.count(2), 2);
        Due.feedAll(x, "cape 1 1;cape 2 1;xx");
        due.is("nine", x.coast(9), 0);
        counts(x, 8, 8, 1, 0, 0, 0, -1, 0, 0, 0);
        Due.feedAll(x, "cape 1 1;cape 2 1;xx");
        due.is("eight: it ends too soon", x.coast(8), 1);
        due.is("the tape is empty behind a fault", x.count(9), 0);
        due.is("the cape stays", x.count(2), 1);
        Due.feedAll(x, "cape 1 1;cape 2 1;xx");
        due.is("coast(0) of a full tape", x.coast(0), 0);
        due.is("the tape is empty", x.count(9), 0);
        due.is("no cape", x.count(2), 0);
        Due.feedAll(x, "yields rank;  ships ");
        due.is("a word is cut", x.coast(18), 1);
        Due.feedAll(x, "cape 1 17;          ");
        due.is("a number is cut, then it ends", x.coast(8), 1);
        due.is("at its end", x.fault(), 8);
        Due.feedAll(x, "yields 12345;       ");
        due.is("five digits are cut to four", x.coast(11), 1);
        due.is("at its end", x.fault(), 11);
        Due.feedAll(x, "yields 12345;       ");
        due.is("all five", x.coast(12), 2);
        due.is("at the number", x.fault(), 7);
    }

    /** Whatever was told and done before, nothing of it is left in the next coast, nor in the one behind it. */
    private void coastMakesAllAnew() {
        due.promise(3, "all anew");
        String full = capeRow(12) + row("light %d 1 12 200 9 eeeeeeeeeeee llllll;", 5) + row("ship %d 11 12;", 8)
            + "fog 9 9 9 9 9 9 9 9;yields 1;yields 0-rank;yields 2;";
        String small = "light 1 0 1 1 0 w k;ship 0 0 1;";
        SailingLights x = new SailingLights();
        for (int i = 0; i < 4; i++) {
            due.is("a full one", Due.read(x, full), 0);
            counts(x, 12, 12, 12, 5, 8, 3, 0, 0, 0, 0, 0, 0, 0);
            due.is("where light 0 goes", x.where(0, 1), 12);
            due.is("nothing is seen", x.content(0), 0);
            x.obey(2);
            x.fill(4, 5);
            x.log(7, 239, 4, true);
            x.image();
            due.is("a small one", Due.read(x, small), 0);
            counts(x, 8, 8, 0, 1, 1, 0, -1, 0, 0, 0, 0, 0, 0);
            due.is("its way", x.where(0, 1), 0);
            due.is("its steps", x.light(0, 4), 1);
            due.is("its sign", x.light(0, 6), 0);
            due.is("no fog", x.content(0), 1);
            due.is("no log", x.falsely(), 0);
            due.is("no act", x.undo(), -1);
            due.is("no image", x.restore(), false);
            x.want(0, 5);
            x.log(0, 0, 0, true);
            x.image();
            due.is("an empty one", Due.read(x, i % 2 == 0 ? "" : "yields 0-light;"), 0);
            counts(x, 8, 8, 0, 0, 0, i % 2, i % 2 - 1, 0, 0, 0, 0, 0, 0);
        }
        String[] laws = {"light", "0-light", "light*2", "0-light*2", "1+light", "1-light"};
        for (int i = 0; i < 12; i++) {
            Due.read(x, "light 0 0 1 0 3 e l;light 1 0 1 0 7 e l;yields " + laws[i % 6] + ";");
            due.is("the law that was read last", x.where(0, 1), i % 2 == 0 ? 1 : 0);
        }
    }

    private void coastWithFaultLeavesAll() {
        due.promise(3, "or the FAULT (all stays)");
        String[] faulty = {"x", "sea 13", "yields x", "cape 0 0;cape 0 0;", "fog 1;fog 1;"};
        for (int fault = 1; fault <= 5; fault++) {
            SailingLights x = due.of("sea 5 3;cape 1 1;light 0 0 1 9 1 e l;ship 2 2 3;fog 1 2;yields 1;yields 2;");
            x.fill(0, 7);
            x.log(0, 0, 0, true);
            x.image();
            x.obey(1);
            x.want(0, 13);
            due.is("the fault", Due.read(x, faulty[fault - 1]), fault);
            counts(x, 5, 3, 1, 1, 1, 2, 1, 2, 1, 0, 1, 1, 0);
            due.is("the oil stays", x.light(0, 2), 7);
            due.is("falsely stays", x.falsely(), 1);
            due.is("an act is undone", x.undo(), 1);
            due.is("the law as it was", x.count(6), 0);
            due.is("the image stays", x.restore(), true);
            due.is("another act is undone", x.undo(), 0);
            due.is("the oil as it was", x.light(0, 2), 9);
        }
    }

    private void coastForgets() {
        due.promise(3, "ACTS, the LOG, the image are gone (STATUS stays).");
        SailingLights x = due.of("light 0 0 1 9 1 e l;ship 2 2 3;yields 1;yields 2;");
        Due.read(x, "x");
        x.fill(0, 7);
        x.fill(0, 201);
        x.fill(0, 201);
        for (int i = 0; i < 11; i++) {
            x.log(0, 12, 0, true);
        }
        x.obey(1);
        x.image();
        due.is("the same again", Due.read(x, "light 0 0 1 9 1 e l;ship 2 2 3;yields 1;yields 2;"), 0);
        counts(x, 8, 8, 0, 1, 1, 2, 0, 0, 0, 0, 1, 2, 3);
        due.is("no act", x.undo(), -1);
        due.is("no image", x.restore(), false);
        due.is("no log", x.falsely(), 0);
        due.is("the oil as told", x.light(0, 2), 9);
        due.is("a log of one", x.log(0, 12, 0, true), 1);
    }

    private void coastThrows() {
        due.promise(3, "IllegalArgumentException: the tape has not so many, n below 0 (nothing changes).");
        SailingLights x = due.of(LIGHT + "ship 0 0 1;");
        Due.read(x, "cape 1");
        x.fill(0, 7);
        x.image();
        x.log(0, 0, 0, true);
        due.unfit("one of an empty tape", () -> x.coast(1));
        Due.feedAll(x, "sea 3 3;");
        for (int n : new int[] {21, 700, 701, Integer.MAX_VALUE, -1, -20, Integer.MIN_VALUE}) {
            due.unfit("coast(" + n + ")", () -> x.coast(n));
            counts(x, 8, 8, 0, 1, 1, 0, -1, 1, 1, 20, 1, 0, 0);
            due.is("fault()", x.fault(), 6);
        }
        due.is("the image stays", x.restore(), true);
        due.is("all of the tape", x.coast(20), 0);
        due.is("as fed", x.count(0), 3);
    }

    private void fault() {
        due.promise(4, "The place of the latest coast()'s FAULT; NONE without.");
        SailingLights x = new SailingLights();
        due.is("without a coast()", x.fault(), -1);
        Due.read(x, "x");
        due.is("the first place", x.fault(), 0);
        Due.read(x, " ".repeat(699) + "x");
        due.is("the last byte", x.fault(), 699);
        Due.read(x, "cape 1 1" + " ".repeat(692));
        due.is("the longest text's length", x.fault(), 700);
        due.unfit("too many", () -> x.coast(1));
        due.is("an exception is no coast()", x.fault(), 700);
        Due.read(x, "cape");
        due.is("the latest", x.fault(), 4);
        x.undo();
        x.feed(0, 0, 0, 0, 0);
        due.is("other calls leave it", x.fault(), 4);
        x.coast(0);
        due.is("without a fault", x.fault(), -1);
    }

    private void count() {
        due.promise(5, "0 W, 1 H, 2 CAPES, 3 LIGHTS, 4 SHIPS, 5 LAWS, 6 the LAW in force (NONE), 7 ACTS that are kept, "
            + "8 the LOG: how much, 9 bytes of the tape, 10 to 12 STATUS 0 to 2.");
        SailingLights x = due.of("sea 9 7;cape 0 0;cape 1 0;cape 2 0;light 3 0 1 0 0 o l;light 4 0 1 0 0 o l;ship 0 1 0;"
            + "yields 1;yields 2;yields 3;");
        counts(x, 9, 7, 3, 2, 1, 3, 0, 0, 0, 0, 0, 0, 0);
        x.obey(2);
        x.obey(1);
        x.want(0, 4);
        x.log(0, 0, 0, true);
        x.log(0, 0, 0, false);
        Due.read(x, "?");
        x.feed(0, 0, 0, 0, 0);
        x.feed(0, 0, 0, 0, 0);
        x.want(0, 13);
        x.moor(0, 0);
        counts(x, 9, 7, 3, 2, 1, 3, 1, 3, 2, 40, 1, 2, 0);
        x.obey(-1);
        due.is("none in force", x.count(6), -1);
        for (int i = 0; i < 50; i++) {
            x.want(0, i % 13);
            x.log(0, 0, 0, true);
        }
        due.is("forty acts are kept", x.count(7), 40);
        due.is("eight of the log", x.count(8), 8);
        due.is("all others were refused", x.count(12), 44);
        due.promise(5, "STATUS: how many calls were refused: 0 of TEXTS with a FAULT, 1 of ACTS, 2 of the LOG.");
        SailingLights y = due.of(LIGHT + "ship 0 0 0;");
        y.fill(0, -1);
        y.moor(0, 64);
        y.push(0, -1);
        y.obey(0);
        y.want(0, 13);
        counts(y, 8, 8, 0, 1, 1, 0, -1, 0, 0, 0, 0, 5, 0);
        y.undo();
        y.restore();
        due.is("undo() and restore() are none of these", y.count(10) + y.count(11) + y.count(12), 5);
        Due.read(y, ";");
        Due.read(y, ";");
        due.is("two texts", y.count(10), 2);
        due.missing("fill(1, -1)", () -> y.fill(1, -1));
        due.missing("log(1, 0, 0)", () -> y.log(1, 0, 0, true));
        counts(y, 8, 8, 0, 1, 1, 0, -1, 0, 0, 0, 2, 5, 0);
        due.promise(5, "NoSuchElementException: another what.");
        for (int what : new int[] {-1, 13, 14, Integer.MIN_VALUE, Integer.MAX_VALUE}) {
            due.missing("count(" + what + ")", () -> x.count(what));
        }
    }

    private void lightIs(String line, int... want) {
        SailingLights x = due.of("sea 12 12;" + line);
        for (int what = 0; what < want.length; what++) {
            due.is(line + " light(0, " + what + ")", x.light(0, what), want[what]);
        }
    }

    private void light() {
        due.promise(6, "Of a LIGHT: 0 the CELL where it begins, 1 REACH, 2 OIL as told, 3 RANK, 4 how many steps its WAY has, "
            + "5 how many flashes its SIGN has, 6 its SIGN (the first flash is the lowest bit, 1 long).");
        lightIs("light 0 0 1 0 0 n k;", 0, 1, 0, 0, 1, 1, 0);
        lightIs("light 11 11 12 200 9 neswoneswone llllll;", 143, 12, 200, 9, 12, 6, 63);
        lightIs("light 0 11 6 100 5 oo lkkkkk;", 132, 6, 100, 5, 2, 6, 1);
        lightIs("light 11 0 6 100 5 oo kkkkkl;", 11, 6, 100, 5, 2, 6, 32);
        lightIs("light 5 7 6 100 5 oo klk;", 89, 6, 100, 5, 2, 3, 2);
        SailingLights x = due.of("light 0 0 9 9 9 e l;light 2 0 3 3 3 ss kk;");
        due.is("where it begins, not where it is", x.where(0, 1), 1);
        due.is("it begins", x.light(0, 0), 0);
        due.is("of another", x.light(1, 4), 2);
        x.fill(0, 5);
        due.is("as told, not as burnt", x.light(0, 2), 5);
        x.push(0, 63);
        due.is("where it begins now", x.light(0, 0), 63);
    }

    private void sea() {
        due.promise(5, "THE SEA is W by H CELLS (1 to 12 each; 8 by 8 without): x from the left (0), y from the top (0); "
            + "a CELL's number is W by y and x.");
        int[][] sides = {{1, 1}, {1, 12}, {12, 1}, {12, 12}, {3, 7}};
        for (int[] side : sides) {
            SailingLights x = due.of("sea " + side[0] + " " + side[1] + ";");
            due.is("W", x.count(0), side[0]);
            due.is("H", x.count(1), side[1]);
            String last = (side[0] - 1) + " " + (side[1] - 1);
            due.is("the last cell", due.of("sea " + side[0] + " " + side[1] + ";light " + last + " 1 0 0 o l;").light(0, 0),
                side[0] * side[1] - 1);
        }
        due.is("W without", due.of("cape 0 0;").count(0), 8);
        due.is("H without", due.of("cape 0 0;").count(1), 8);
        due.faulty("sea 0 1;", 2, 4);
        due.faulty("sea 13 1;", 2, 4);
        due.faulty("sea 1 0;", 2, 6);
        due.faulty("sea 1 13;", 2, 6);
        SailingLights x = due.of("sea 5 3;light 4 0 1 0 0 s l;light 0 2 1 0 0 n l;");
        due.is("the right end of the top", x.light(0, 0), 4);
        due.is("the left end of the third row", x.light(1, 0), 10);
        due.is("down from the top", x.where(0, 1), 9);
        due.is("up to the top", x.where(1, 2), 0);
        due.is("no cell above", x.where(1, 3), 0);
    }

    private static String capeRow(int many) {
        StringBuilder s = new StringBuilder("sea 12 12;");
        for (int i = 0; i < many; i++) {
            s.append("cape ").append(i).append(" 0;");
        }
        return s.toString();
    }

    private void capes() {
        due.promise(5, "CAPES (at most 12): CELLS.");
        due.is("no cape", due.of(capeRow(0)).count(2), 0);
        due.is("twelve", due.of(capeRow(12)).count(2), 12);
        String twelve = capeRow(12);
        due.faulty(twelve + "cape 0 1;", 2, twelve.length());
        due.is("a line of another kind behind twelve", due.of(twelve + "ship 0 1 0;").count(4), 1);
        SailingLights last = due.of("sea 12 12;cape 11 11;light 10 11 1 0 0 e l;light 11 10 1 0 0 s l;");
        due.is("the last cell may be a cape", last.where(0, 1), 142);
        due.is("from both sides", last.where(1, 1), 131);
    }

    private void lightLine() {
        due.promise(6, "LIGHTS 0, 1 .. (at most 5): a CELL (no CAPE, no two in one), REACH (1 to 12), OIL (0 to 200), "
            + "RANK (0 to 9), a WAY (1 to 12 steps), a SIGN (1 to 6 flashes).");
        StringBuilder five = new StringBuilder();
        for (int i = 0; i < 5; i++) {
            five.append("light ").append(i).append(" 0 1 0 ").append(i).append(" o l;");
        }
        SailingLights x = due.of(five.toString());
        due.is("five", x.count(3), 5);
        for (int i = 0; i < 5; i++) {
            due.is("light " + i, x.light(i, 3), i);
        }
        due.faulty(five + "light 5 0 1 0 0 o l;", 2, five.length());
        due.is("a ship in a light's cell", due.of(five + "ship 4 0 0;").count(4), 1);
        due.faulty("cape 3 3;light 3 3 1 0 0 o l;", 4, 17);
        due.faulty("light 3 3 1 0 0 o l;light 3 3 1 0 0 o l;", 4, 28);
        due.is("the next cell", due.of("cape 3 3;light 2 3 1 0 0 o l;light 4 3 1 0 0 o l;light 3 2 1 0 0 o l;").count(3), 3);
        due.faulty("light 0 0 0 0 0 o l;", 2, 10);
        due.is("reach 1", due.of("light 0 0 1 0 0 o l;").light(0, 1), 1);
        due.is("reach 12", due.of("light 0 0 12 0 0 o l;").light(0, 1), 12);
        due.faulty("light 0 0 13 0 0 o l;", 2, 10);
        due.is("oil 0", due.of("light 0 0 1 0 0 o l;").light(0, 2), 0);
        due.is("oil 200", due.of("light 0 0 1 200 0 o l;").light(0, 2), 200);
        due.faulty("light 0 0 1 201 0 o l;", 2, 12);
        due.faulty("light 0 0 1 9999 0 o l;", 2, 12);
        due.is("rank 0", due.of("light 0 0 1 0 0 o l;").light(0, 3), 0);
        due.is("rank 9", due.of("light 0 0 1 0 9 o l;").light(0, 3), 9);
        due.faulty("light 0 0 1 0 10 o l;", 2, 14);
        due.is("one step", due.of("light 0 0 1 0 0 o l;").light(0, 4), 1);
        due.is("twelve steps", due.of("light 0 0 1 0 0 oooooooooooo l;").light(0, 4), 12);
        due.faulty("light 0 0 1 0 0 ooooooooooooo l;", 2, 16);
        due.is("one flash", due.of("light 0 0 1 0 0 o l;").light(0, 5), 1);
        due.is("six flashes", due.of("light 0 0 1 0 0 o llllll;").light(0, 5), 6);
        due.faulty("light 0 0 1 0 0 o lllllll;", 2, 18);
    }

    private void shipLine() {
        due.promise(7, "SHIPS 0, 1 .. (at most 8): a CELL (no CAPE, no two in one), WANT (0 to 12).");
        StringBuilder eight = new StringBuilder();
        for (int i = 0; i < 8; i++) {
            eight.append("ship ").append(i).append(" 0 ").append(i).append(";");
        }
        SailingLights x = due.of(eight.toString());
        due.is("eight", x.count(4), 8);
        for (int i = 0; i < 8; i++) {
            due.is("ship " + i, x.ship(i, 1), i);
        }
        due.faulty(eight + "ship 0 1 0;", 2, eight.length());
        due.is("a light in a ship's cell", due.of(eight + "light 7 0 1 0 0 o l;").count(3), 1);
        due.faulty("cape 3 3;ship 3 3 0;", 4, 16);
        due.faulty("ship 3 3 0;ship 3 3 0;", 4, 18);
        due.is("the next cell", due.of("cape 3 3;ship 2 3 0;ship 4 3 0;ship 3 4 0;").count(4), 3);
        due.is("want 0", due.of("ship 0 0 0;").ship(0, 1), 0);
        due.is("want 12", due.of("ship 0 0 12;").ship(0, 1), 12);
        due.faulty("ship 0 0 13;", 2, 9);
    }

    /** From one to eight cells off there is a ship: in a fog of f all but the last f see a light of reach 8. */
    private void fogsAre(String line, int... fogs) {
        StringBuilder s = new StringBuilder("sea 12 12;light 0 0 8 200 0 o l;");
        for (int i = 1; i <= 8; i++) {
            s.append("ship ").append(i).append(" 0 1;");
        }
        SailingLights x = due.of(s + line);
        for (int night = 0; night < 10; night++) {
            int seen = Math.max(0, 8 - fogs[night]);
            due.is(line + " content(" + night + ")", x.content(night), (1 << seen) - 1);
        }
    }

    private void fogs() {
        due.promise(12, "FOGS (at most 8; 0 to 9 each): in NIGHT k that which is the (k MOD how many)-th; 0 without.");
        fogsAre("", 0, 0, 0, 0, 0, 0, 0, 0, 0, 0);
        fogsAre("fog 3;", 3, 3, 3, 3, 3, 3, 3, 3, 3, 3);
        fogsAre("fog 9;", 9, 9, 9, 9, 9, 9, 9, 9, 9, 9);
        fogsAre("fog 4 0;", 4, 0, 4, 0, 4, 0, 4, 0, 4, 0);
        fogsAre("fog 1 2 3;", 1, 2, 3, 1, 2, 3, 1, 2, 3, 1);
        fogsAre("fog 1 2 3 4 5 6 7;", 1, 2, 3, 4, 5, 6, 7, 1, 2, 3);
        fogsAre("fog 7 6 5 4 3 2 1 0;", 7, 6, 5, 4, 3, 2, 1, 0, 7, 6);
        due.faulty("fog 0 0 0 0 0 0 0 0 0;", 2, 20);
        due.faulty("fog 10;", 2, 4);
        due.faulty("fog 9 9 9 9 9 9 9 10;", 2, 18);
        SailingLights nine = due.of("light 0 0 9 200 0 o l;light 0 1 8 200 0 o l;ship 0 0 0;fog 9;");
        due.is("a reach of nine in a fog of nine", nine.seen(0, 12), 1);
    }

    private void laws() {
        due.promise(17, "LAWS 0, 1 .. (at most 3): rules.");
        due.is("no law", due.of("").count(5), 0);
        due.is("one", due.of("yields 1;").count(5), 1);
        SailingLights x = due.of("light 0 0 1 0 0 e l;light 1 0 1 0 0 e l;yields light;yields 0-light;yields 2*light;");
        due.is("three", x.count(5), 3);
        int[] want = {1, 0, 1};
        for (int law = 0; law < 3; law++) {
            x.obey(law);
            due.is("law " + law, x.where(0, 1), want[law]);
        }
        due.faulty("yields 1;yields 2;yields 3;yields 4;", 2, 27);
    }

    private void longestText() {
        due.promise(2, "A TEXT of at most 700 bytes tells it.");
        String text = "sea 2 2;" + " ".repeat(680) + "ship 1 1 12;";
        due.is("its length", text.length(), 700);
        due.is("all of it", due.of(text).ship(0, 0), 3);
        String law = "yields 1" + "+1".repeat(345) + "; ";
        due.is("its length", law.length(), 700);
        due.is("a law all along", due.of(law).count(5), 1);
        String sum = "sea 2 2;light 0 0 1 0 0 e l;light 1 0 1 0 0 s l;yields light*(1" + "+1".repeat(315) + "=316);";
        due.is("the sum of a long law: light 1 goes ahead", due.of(sum).where(0, 1), 1);
        String words = "yields " + "lit or\n".repeat(98) + "oil ; ";
        due.is("words all along", due.of(words.substring(0, 699)).count(5), 1);
    }

    private void everyByteAlone() {
        due.promise(3, "blanks (32, 10) between them count for nothing.");
        for (int sign = 0; sign < 256; sign++) {
            SailingLights x = new SailingLights();
            x.feed(sign << 24 | 0x202020, BLANKS, BLANKS, BLANKS, BLANKS);
            boolean blank = sign == 32 || sign == 10;
            due.is("byte " + sign, x.coast(1), blank ? 0 : 1);
            due.is("its place", x.fault(), blank ? -1 : 0);
        }
        due.is("blanks ahead, between, behind", due.of("\n  sea\n2\n\n 3 ;\n ").count(1), 3);
        due.is("none between", due.of("sea2 3;cape1 2;light0 0 1 0 0o l;").count(3), 1);
        due.faulty("ca pe 1 1;", 1, 0);
        due.faulty("cape 1\n1 1;", 1, 9);
    }

    private void everyByteWithin() {
        due.promise(3, "TOKENS: words (a .. z, the longest row), NUMBERS (1 to 4 digits), signs ; ( ) + - * / < = ;");
        for (int sign = 0; sign < 256; sign++) {
            SailingLights x = new SailingLights();
            // cape 1 1?;
            x.feed(0x63617065, 0x20312031, sign << 24 | 0x3b2020, BLANKS, BLANKS);
            int fault = 1;
            int place = 8;
            if (sign == 32 || sign == 10) {
                fault = 0;
                place = -1;
            } else if (sign >= '0' && sign <= '9') {
                // A y of 10 to 19.
                fault = 2;
                place = 7;
            } else if (sign == ';') {
                place = 9;
            }
            due.is("byte " + sign + " behind a number", x.coast(10), fault);
            due.is("its place", x.fault(), place);
        }
    }

    private void tokens() {
        due.promise(3, "words (a .. z, the longest row)");
        due.faulty("capeship 1 1;", 1, 0);
        due.faulty("`cape 1 1;", 1, 0);
        due.faulty("cape{1 1;", 1, 4);
        due.faulty("capE 1 1;", 1, 0);
        due.faulty("cape 1 1;shipp 1 1 0;", 1, 9);
        due.faulty("yields ranks;", 3, 7);
        due.faulty("yields notrank;", 3, 7);
        for (String other : new String[] {"dape", "capd", "cepe", "cap", "eight", "lighs", "whip", "shin", "dog", "foe", "yielde", "fields", "tea"}) {
            due.faulty(other + " 1 1 1;", 1, 0);
        }
        for (String other : new String[] {"bank", "rant", "oi", "oid", "ail", "night", "lights", "four", "hous", "peach", "lip", "bit", "mot", "non"}) {
            due.faulty("yields " + other + ";", 3, 7);
        }
        for (String other : new String[] {"xr", "ox", "o", "orr", "an", "ana", "xnd", "any"}) {
            due.faulty("yields 1 " + other + " 2;", 1, 9);
        }
        due.is("a number ends a word", due.of("yields not1or2;").count(5), 1);
        due.promise(3, "NUMBERS (1 to 4 digits)");
        due.is("four digits", due.of("sea 0007 0012;").count(0), 7);
        due.is("four digits again", due.of("sea 0007 0012;").count(1), 12);
        due.faulty("sea 00007 1;", 2, 4);
        due.is("9999 in an expr", due.of("yields 9999;").count(5), 1);
        due.faulty("yields 10000;", 2, 7);
        due.faulty("yields 00000;", 2, 7);
        due.faulty("yields 4294967296;", 2, 7);
        due.faulty("sea 4294967297 1;", 2, 4);
        due.faulty("sea 1 " + "1".repeat(690) + ";", 2, 6);
        due.promise(3, "signs ; ( ) + - * / < = ;");
        due.is("all in one law", due.of("yields (1+2-3*4/5<6);yields 1=2;").count(5), 2);
        for (char sign : new char[] {'>', '!', ',', '.', '[', ']', '{', '}', '&', '|', '%', '^', '~', '"', '\'', ':', '@', '_'}) {
            due.faulty("yields 1" + sign + "2;", 1, 8);
        }
    }

    private void lines() {
        due.promise(3, "In quotes is what stands there, [ ] perhaps, * any number of times, | one of some. "
            + "COAST: ['sea' W H ';'] LINE*.");
        counts(due.of(""), 8, 8, 0, 0, 0, 0);
        counts(due.of(" \n "), 8, 8, 0, 0, 0, 0);
        counts(due.of("sea 3 4;"), 3, 4, 0, 0, 0, 0);
        counts(due.of("cape 1 1;"), 8, 8, 1, 0, 0, 0);
        due.faulty("sea 3 4;sea 3 4;", 1, 8);
        due.faulty("cape 1 1;sea 3 4;", 1, 9);
        due.faulty(";", 1, 0);
        due.faulty("sea 3 4;;", 1, 8);
        due.promise(3, "LINE: ('cape' X Y | 'light' X Y REACH OIL RANK WAY SIGN | 'ship' X Y WANT | 'fog' NUMBER NUMBER* | "
            + "'yields' EXPR) ';'");
        counts(due.of("yields 1;fog 1;ship 1 1 1;light 1 1 1 1 1 o l;cape 2 2;ship 3 3 3;yields 2;cape 4 4;"),
            8, 8, 2, 1, 2, 2, 0);
        due.faulty("capes 1 1;", 1, 0);
        due.faulty("yield 1;", 1, 0);
        due.faulty("rank;", 1, 0);
        due.faulty("1;", 1, 0);
        due.promise(3, "all in capitals but EXPR being NUMBERS;");
        due.faulty("sea w 1;", 1, 4);
        due.faulty("sea 1 (1);", 1, 6);
        due.faulty("cape x 1;", 1, 5);
        due.faulty("cape -1 1;", 1, 5);
        due.faulty("cape 1 -1;", 1, 7);
        due.faulty("light 1 1 e 1 1 o l;", 1, 10);
        due.faulty("light 1 1 1 e 1 o l;", 1, 12);
        due.faulty("light 1 1 1 1 e o l;", 1, 14);
        due.faulty("ship 1 1 l;", 1, 9);
        due.faulty("fog rank;", 1, 4);
        due.faulty("fog -1;", 1, 4);
        due.faulty("fog 1 +2;", 1, 6);
    }

    /** A line that ends behind any token but its last one ends too soon, wherever blanks go on. */
    private void linesCutShort() {
        due.promise(3, "the text's length where it ends too soon");
        String[] lines = {"sea 3 4 ;", "cape 1 1 ;", "light 1 1 1 1 1 o l ;", "ship 1 1 1 ;", "fog 1 ;", "fog 1 2 3 ;",
            "yields 1 ;", "yields not ( rank + 1 < oil ) or lit and ( 2 = 3 ) * 4 / 5 - 6 ;"};
        for (String line : lines) {
            due.of(line);
            for (int at = line.indexOf(' '); at >= 0; at = line.indexOf(' ', at + 1)) {
                String cut = line.substring(0, at);
                due.faulty(cut, 1, cut.length());
                due.faulty(cut + " \n ", 1, cut.length() + 3);
                due.faulty(cut + " }", 1, cut.length() + 1);
            }
        }
    }

    private void waysAndSigns() {
        due.promise(8, "but WAY: a word of n, e, s, w, o (up, right, down, left, stay), SIGN: a word of l, k (long, short).");
        String steps = "neswo";
        int[] cells = {1, 5, 7, 3, 4};
        for (char letter = 'a'; letter <= 'z'; letter++) {
            int step = steps.indexOf(letter);
            String way = "sea 3 3;light 1 1 1 0 0 " + letter + " l;";
            if (step >= 0) {
                due.is("step " + letter, due.of(way).where(0, 1), cells[step]);
            } else {
                due.faulty(way, 3, 24);
            }
            String sign = "sea 3 3;light 1 1 1 0 0 o " + letter + ";";
            if (letter == 'l' || letter == 'k') {
                due.is("flash " + letter, due.of(sign).light(0, 6), letter == 'l' ? 1 : 0);
            } else {
                due.faulty(sign, 3, 26);
            }
        }
        due.faulty("light 0 0 1 0 0 1 l;", 1, 16);
        due.faulty("light 0 0 1 0 0 o 1;", 1, 18);
        due.faulty("light 0 0 1 0 0 (o) l;", 1, 16);
        due.faulty("light 0 0 1 0 0 o;", 1, 17);
        due.faulty("light 0 0 1 0 0 o l l;", 1, 20);
        due.faulty("light 0 0 1 0 0 e e l;", 3, 18);
    }

    private void firstFaultLeastFault() {
        due.promise(3, "FAULTS, the first along the text, at a TOKEN's first byte, of one TOKEN the least:");
        due.faulty("cape 9 x;fog 1;fog 1;", 2, 5);
        due.faulty("fog 1;fog 1;cape 9 x;", 5, 6);
        due.faulty("cape 1 1;cape 1 1;yields x;", 4, 16);
        due.faulty("yields x;cape 1 1;cape 1 1;", 3, 7);
        due.faulty("cape 1 1?cape 9", 1, 8);
        due.faulty("cape 1 1 12345;", 1, 9);
        due.faulty("cape 1 1 lklklklk;", 1, 9);
        due.faulty("12345", 1, 0);
        due.faulty("light 1 1 1 1 1 12345 l;", 1, 16);
        due.faulty("cape 1 1;light 1 12345", 2, 17);
        due.faulty("cape 1 1;light 1 8", 2, 17);
        due.faulty("yields ((((((rankle", 2, 13);
    }

    private void faultOne() {
        due.promise(3, "1 a TOKEN that can't stand there, or is none (the text's length where it ends too soon; "
            + "'sea' but at the beginning);");
        due.faulty("light;", 1, 5);
        due.faulty("cape 1 1)", 1, 8);
        due.faulty("fog ;", 1, 4);
        due.faulty("fog 1 rank;", 1, 6);
        due.faulty("yields 1 1;", 1, 9);
        due.faulty("yields rank rank;", 1, 12);
        due.faulty("yields 1 x;", 1, 9);
        due.faulty("yields 1 not 1;", 1, 9);
        due.faulty("yields 1(2);", 1, 8);
        due.faulty("yields (1)(2);", 1, 10);
        due.faulty("yields (1)2;", 1, 10);
        due.faulty("yields ;", 1, 7);
        due.faulty("yields );", 1, 7);
        due.faulty("yields -1;", 1, 7);
        due.faulty("yields +1;", 1, 7);
        due.faulty("yields 1--1;", 1, 9);
        due.faulty("yields 1*/1;", 1, 9);
        due.faulty("yields <1;", 1, 7);
        due.faulty("yields 1<;", 1, 9);
        due.faulty("yields 1<=2;", 1, 9);
        due.faulty("yields 1<2<3;", 1, 10);
        due.faulty("yields 1<2=3;", 1, 10);
        due.faulty("yields 1=2=3;", 1, 10);
        due.faulty("yields 1 and;", 1, 12);
        due.faulty("yields 1 or;", 1, 11);
        due.faulty("yields not;", 1, 10);
        due.faulty("yields (1;", 1, 9);
        due.faulty("yields (1));", 1, 10);
        due.faulty("yields ();", 1, 8);
        due.faulty("yields 1 sea;", 1, 9);
        due.faulty(" sea 1 1;sea 1 1;", 1, 9);
        due.is("blanks ahead of sea", due.of("\n sea 1 1;").count(0), 1);
    }

    private static String row(String line, int many) {
        StringBuilder s = new StringBuilder();
        for (int i = 0; i < many; i++) {
            s.append(String.format(line, i));
        }
        return s.toString();
    }

    private void faultTwo() {
        due.promise(3, "2 one that can, but is too much: a NUMBER of 5 digits or more, or (not in an EXPR) not as told "
            + "(an X, a Y that there isn't), a WAY, a SIGN of too many letters,");
        due.faulty("sea 3 5;cape 3 0;", 2, 13);
        due.faulty("sea 3 5;cape 0 5;", 2, 15);
        due.of("sea 3 5;cape 2 4;");
        due.faulty("sea 3 5;light 3 0 1 0 0 o l;", 2, 14);
        due.faulty("sea 3 5;light 2 5 1 0 0 o l;", 2, 16);
        due.of("sea 3 5;light 2 4 1 0 0 o l;");
        due.faulty("sea 3 5;ship 3 0 0;", 2, 13);
        due.faulty("sea 3 5;ship 2 5 0;", 2, 15);
        due.of("sea 3 5;ship 2 4 0;");
        due.faulty("cape 8 7;", 2, 5);
        due.faulty("cape 7 8;", 2, 7);
        due.of("cape 7 7;");
        due.is("in an expr numbers are as they like", due.of("yields 9999*9999;").count(5), 1);
        due.faulty("light 0 0 1 0 0 nnnnnnnnnnnnnn l;", 2, 16);
        due.faulty("light 0 0 1 0 0 o kkkkkkkk;", 2, 18);
        due.promise(3, "the first TOKEN of the 13th CAPE, the 6th LIGHT, the 9th SHIP, FOG, the 4th LAW,");
        String capes = row("cape %d 0;", 8) + "cape 0 1;cape 1 1;cape 2 1;cape 3 1;";
        due.faulty(capes + "cape", 2, capes.length());
        due.faulty(capes + "cape x", 2, capes.length());
        due.faulty(capes + "cape 0 0;", 2, capes.length());
        String lights = row("light %d 0 1 0 0 o l;", 5);
        due.faulty(lights + " light", 2, lights.length() + 1);
        due.faulty(lights + "light 0 0", 2, lights.length());
        String ships = row("ship %d 0 0;", 8);
        due.faulty(ships + "ship", 2, ships.length());
        due.faulty(ships + "ship 9 9", 2, ships.length());
        due.faulty("fog 1 1 1 1 1 1 1 1 1;", 2, 20);
        due.faulty("fog 1 1 1 1 1 1 1 1 99999;", 2, 20);
        due.faulty("fog 1 1 1 1 1 1 1 1 x;", 1, 20);
        due.faulty("yields 1;yields 1;yields 1;yields", 2, 27);
        due.faulty("yields 1;yields 1;yields 1;yields x", 2, 27);
    }

    private void faultTwoDepth() {
        due.promise(3, "of an EXPR within 6 others (a NUMBER, any word, a parenthesis),");
        due.of("yields (((((1)))));");
        due.of("yields (((((rank+0)))));");
        due.of("yields (((((1)))))+(((((1)))))*(((((1)))));");
        due.of("yields (1)+(1)+(1)+(1)+(1)+(1)+(1)+(1);");
        due.faulty("yields ((((((1))))));", 2, 13);
        due.faulty("yields (((((( 1", 2, 14);
        due.faulty("yields ((((((99999", 2, 13);
        due.faulty("yields ((((((rank", 2, 13);
        due.faulty("yields ((((((not", 2, 13);
        due.faulty("yields ((((((or", 2, 13);
        due.faulty("yields ((((((zzz", 2, 13);
        due.faulty("yields (((((((", 2, 13);
        due.faulty("yields ((((((", 1, 13);
        due.faulty("yields (((((()", 1, 13);
        due.faulty("yields ((((((-", 1, 13);
        due.faulty("yields ((((((;", 1, 13);
        due.faulty("yields ((((((?", 1, 13);
        due.faulty("yields (((((1+(1)))))));", 2, 15);
        due.faulty("yields (((((not not (1)))))));", 2, 21);
        due.faulty("yields (((((1 or rank<(", 1, 23);
        due.faulty("yields (((((1 or rank<(2", 2, 23);
        due.faulty("yields " + "(".repeat(693), 2, 13);
        due.promise(3, "the seventh 'not' side by side;");
        due.of("yields not not not not not not 1;");
        due.faulty("yields not not not not not not not 1;", 2, 31);
        due.faulty("yields not\nnot\nnot not  not not\nnot", 2, 32);
        due.faulty("yields not not not not not not not not x;", 2, 31);
        due.faulty("yields 1 or not not not not not not not 1;", 2, 36);
        due.of("yields not not not not not not 1 and not not not not not not 1 or not not not not not not 1;");
        due.of("yields not not not (not not not not not not 1);");
        due.faulty("yields not not not (not not not not not not not", 2, 44);
        due.faulty("yields not not not not not not x;", 3, 31);
        due.faulty("yields " + "not ".repeat(173), 2, 31);
    }

    private void faultThree() {
        due.promise(3, "3 any word where a PART must stand that is no VALUE, a word with another letter where a WAY, a SIGN "
            + "must stand (ahead of 2);");
        for (String word : new String[] {"or", "and", "x", "sea", "cape", "ship", "fog", "yields", "way", "ranks", "ran", "o", "li"}) {
            due.faulty("yields " + word + ";", 3, 7);
            due.faulty("yields 1+" + word + ";", 3, 9);
            due.faulty("yields (" + word + ");", 3, 8);
            due.faulty("yields not " + word + ";", 3, 11);
            due.faulty("yields 1<" + word + ";", 3, 9);
            due.faulty("yields 1 and " + word + ";", 3, 13);
        }
        due.faulty("yields 1+not 1;", 3, 9);
        due.faulty("yields 1*not 1;", 3, 9);
        due.faulty("yields 1=not 1;", 3, 9);
        due.of("yields 1 or not 1;");
        due.of("yields 1 and not 1;");
        due.of("yields (not 1)+1;");
        for (String value : new String[] {"rank", "oil", "light", "hour", "reach", "lit"}) {
            due.of("yields " + value + ";");
        }
        due.faulty("light 0 0 1 0 0 north l;", 3, 16);
        due.faulty("light 0 0 1 0 0 nnnnnnnnnnnnx l;", 3, 16);
        due.faulty("light 0 0 1 0 0 xnnnnnnnnnnnnnnn l;", 3, 16);
        due.faulty("light 0 0 1 0 0 nnnnnnnnnnnnnnnnnnnnx l;", 3, 16);
        due.faulty("light 0 0 1 0 0 o llllllx;", 3, 18);
        due.faulty("light 0 0 1 0 0 o lko;", 3, 18);
        due.faulty("light 0 0 1 0 0 o long;", 3, 18);
    }

    private void faultFour() {
        due.promise(3, "4 the Y of a CELL in which there is one of its kind already, of a LIGHT, a SHIP at a CAPE, of a CAPE at a "
            + "LIGHT or a SHIP;");
        String cape = "cape 7 7;";
        String light = "light 7 7 1 0 0 o l;";
        String ship = "ship 7 7 0;";
        due.faulty(cape + cape, 4, 16);
        due.faulty(light + light, 4, 28);
        due.faulty(ship + ship, 4, 18);
        due.faulty(cape + light, 4, 17);
        due.faulty(cape + ship, 4, 16);
        due.faulty(light + cape, 4, 27);
        due.faulty(ship + cape, 4, 18);
        due.of(light + ship);
        due.of(ship + light);
        due.faulty(light + ship + cape, 4, 38);
        due.faulty("cape 0 0;cape 0 0 x", 4, 16);
        due.faulty("cape 0 0;cape 0 0", 4, 16);
        due.faulty("sea 3 3;cape 1 2;cape 1 02;", 4, 24);
        due.of("sea 3 3;cape 1 2;cape 2 1;");
        due.of("sea 12 12;cape 11 0;cape 0 1;cape 11 11;");
    }

    private void faultFive() {
        due.promise(3, "5 a second 'fog'.");
        due.faulty("fog 1;fog", 5, 6);
        due.faulty("fog 1;fog 2;", 5, 6);
        due.faulty("fog 1 2 3 4 5 6 7 8;fog 1;", 5, 20);
        due.faulty("fog 1;cape 0 0;yields 1;ship 1 1 1; fog", 5, 36);
        due.faulty("fog fog", 1, 4);
        due.faulty("fog 1 fog", 1, 6);
        SailingLights x = due.of("fog 1;");
        due.is("another text may have its own", Due.read(x, "fog 1;"), 0);
        due.is("behind a fault too", Due.read(x, "fog 1;fog 1;"), 5);
        due.is("and again", Due.read(x, "fog 1;"), 0);
    }
}
