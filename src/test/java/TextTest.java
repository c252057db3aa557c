/** Promises 1 to 6: a new object, the tape, the text and its faults, what there is. */
final class TextTest {
    private static final Due DUE = new Due("TextTest");

    public static void main(String[] args) {
        newObject();
        tape();
        coastTakesFirstBytes();
        coastMakesAllAnew();
        faultLeavesAll();
        shapeFaults();
        numberFaults();
        tooManyFaults();
        wordFaults();
        cellFaults();
        lawFaults();
        textsWithoutFault();
        counts();
        lights();
        DUE.end();
    }

    private static void newObject() {
        DUE.promise(1);
        SailingLights x = new SailingLights();
        int[] want = {8, 8, 0, 0, 0, 0, -1, 0, 0, 0, 0, 0, 0};
        for (int what = 0; what < want.length; what++) {
            DUE.is("new count(" + what + ")", x.count(what), want[what]);
        }
        DUE.is("new fault()", x.fault(), -1);
        DUE.missing("new light(0, 0)", () -> x.light(0, 0));
        DUE.missing("new ship(0, 0)", () -> x.ship(0, 0));
        DUE.is("new brightest()", x.brightest(), -1);
        DUE.is("new undo()", x.undo(), -1);
        DUE.is("new restore()", x.restore(), false);
        DUE.is("NONE", SailingLights.NONE, -1);
    }

    private static void tape() {
        DUE.promise(2);
        SailingLights x = new SailingLights();
        for (int i = 1; i <= 35; i++) {
            DUE.is("feed " + i, x.feed(0x20202020, 0x20202020, 0x20202020, 0x20202020, 0x20202020), 20 * i);
        }
        DUE.is("feed 36", x.feed(0, 0, 0, 0, 0), -1);
        DUE.is("count(9)", x.count(9), 700);
        DUE.is("700 blanks", x.coast(700), 0);
        DUE.is("count(9) behind coast", x.count(9), 0);
        DUE.is("feed anew", x.feed(0x63617065, 0x20312033, 0x3b202020, 0x20202020, 0x202020ff), 20);
        DUE.is("the highest byte first", x.coast(19), 0);
        DUE.is("count(2)", x.count(2), 1);
        x.feed(0x63617065, 0x20312033, 0x3b202020, 0x20202020, 0x202020ff);
        DUE.is("byte 255 is no token", x.coast(20), 1);
        DUE.is("its place", x.fault(), 19);
        x.feed(0, 0x20202020, 0, 0, 0);
        DUE.is("byte 0 is no token", x.coast(20), 1);
        DUE.is("its place", x.fault(), 0);
    }

    private static void coastTakesFirstBytes() {
        DUE.promise(3);
        SailingLights x = new SailingLights();
        DUE.unfit("coast(1) of an empty tape", () -> x.coast(1));
        Due.feedAll(x, "cape 1 1;rubbish");
        DUE.unfit("coast(21)", () -> x.coast(21));
        DUE.unfit("coast(-1)", () -> x.coast(-1));
        DUE.unfit("coast(least)", () -> x.coast(Integer.MIN_VALUE));
        DUE.is("the tape stays", x.count(9), 20);
        DUE.is("no status", x.count(10), 0);
        DUE.is("first nine bytes", x.coast(9), 0);
        DUE.is("the tape is empty", x.count(9), 0);
        DUE.is("a cape", x.count(2), 1);
        DUE.is("an empty text", x.coast(0), 0);
        DUE.is("no cape", x.count(2), 0);
        Due.feedAll(x, "cape 1 15;");
        DUE.is("a number is cut", x.coast(8), 1);
        DUE.is("its place", x.fault(), 8);
        Due.feedAll(x, "yields rank;");
        DUE.is("a word is cut", x.coast(10), 3);
        DUE.is("its place", x.fault(), 7);
        for (String last : new String[] {"x", "1", ";", " "}) {
            Due.feedAll(x, " ".repeat(699) + last);
            DUE.is("700 bytes, at last '" + last + "'", x.coast(700), last.equals(" ") ? 0 : 1);
            DUE.is("its place", x.fault(), last.equals(" ") ? -1 : 699);
        }
        Due.feedAll(x, "yields 1" + "+1".repeat(345) + ";");
        DUE.is("a long law", x.coast(699), 0);
        DUE.is("one law", x.count(5), 1);
    }

    private static void coastMakesAllAnew() {
        DUE.promise(3);
        SailingLights x = DUE.of("sea 5 3;cape 1 1;light 0 0 1 9 1 e l;ship 2 2 3;fog 9;yields 1;");
        x.fill(0, 201);
        x.fill(0, 7);
        x.log(0, 0, 0, true);
        x.image();
        DUE.is("another", Due.read(x, "light 3 3 1 120 1 o l;ship 3 3 12;"), 0);
        int[] want = {8, 8, 0, 1, 1, 0, -1, 0, 0, 0, 0, 1, 0};
        for (int what = 0; what < want.length; what++) {
            DUE.is("anew count(" + what + ")", x.count(what), want[what]);
        }
        DUE.is("the fog is gone", x.watch(0, 0), 12);
        DUE.is("the image is gone", x.restore(), false);
        DUE.is("acts are gone", x.undo(), -1);
        for (int i = 0; i < 3; i++) {
            DUE.is("a cape in cell 0", Due.read(x, "cape 0 0;ship 1 1 0;fog 3;yields 1;"), 0);
            DUE.is("nothing told", Due.read(x, "light 1 0 1 0 0 w l;"), 0);
            DUE.is("no cape", x.where(0, 1), 0);
            DUE.is("no ship", x.count(4), 0);
            DUE.is("no law", x.count(6), -1);
        }
        String[] laws = {"rank", "0-rank", "0-rank*2"};
        for (int i = 0; i < 9; i++) {
            Due.read(x, "light 0 0 1 0 3 e l;light 1 0 1 0 7 e l;yields " + laws[i % 3] + ";");
            DUE.is("the law that was read last, " + laws[i % 3], x.where(0, 1), i % 3 == 0 ? 1 : 0);
        }
    }

    private static void faultLeavesAll() {
        DUE.promise(3);
        SailingLights x = DUE.of("sea 5 3;light 0 0 1 9 1 e l;ship 2 2 3;yields 1;yields 2;");
        x.fill(0, 7);
        x.image();
        x.obey(1);
        x.log(0, 0, 0, true);
        DUE.is("a fault", Due.read(x, "sea 9 9;light 0 0 3 3 3 x l;"), 3);
        DUE.promise(4);
        DUE.is("its place", x.fault(), 24);
        int[] want = {5, 3, 0, 1, 1, 2, 1, 2, 1, 0, 1, 0, 0};
        for (int what = 0; what < want.length; what++) {
            DUE.is("behind a fault count(" + what + ")", x.count(what), want[what]);
        }
        DUE.is("reach stays", x.light(0, 1), 1);
        DUE.unfit("too many", () -> x.coast(1));
        DUE.is("an exception leaves the place", x.fault(), 24);
        DUE.is("the image stays", x.restore(), true);
        DUE.is("as it was", x.count(6), 0);
        DUE.is("a good one", Due.read(x, "ship 1 1 1;"), 0);
        DUE.is("no place", x.fault(), -1);
        DUE.is("status stays", x.count(10), 1);
    }

    private static void shapeFaults() {
        DUE.promise(3);
        DUE.faulty("x;", 1, 0);
        DUE.faulty("Cape 1 1;", 1, 0);
        DUE.faulty(";", 1, 0);
        DUE.faulty("5;", 1, 0);
        DUE.faulty("capes 1 1;", 1, 0);
        DUE.faulty("capez 1 1;", 1, 0);
        DUE.faulty("dape 1 1;", 1, 0);
        DUE.faulty("cape 1 1;acape 1 2;", 1, 9);
        DUE.faulty("`cape 1 1;", 1, 0);
        DUE.faulty("cape{ 1 1;", 1, 4);
        DUE.faulty("cape /1 1;", 1, 5);
        DUE.faulty("cape :1 1;", 1, 5);
        DUE.faulty("cape", 1, 4);
        DUE.faulty("cape 1", 1, 6);
        DUE.faulty("cape 1 \n ", 1, 9);
        DUE.faulty("cape 1 1", 1, 8);
        DUE.faulty("cape 1 1 1;", 1, 9);
        DUE.faulty("cape 1 1 \t;", 1, 9);
        DUE.faulty("cape 1 x;", 1, 7);
        DUE.faulty("cape 1 1;;", 1, 9);
        DUE.faulty("sea 6 4", 1, 7);
        DUE.faulty("sea 6;", 1, 5);
        DUE.faulty("sea 6 4;sea 6 4;", 1, 8);
        DUE.faulty("ship 1 1 1;sea 6 4;", 1, 11);
        DUE.faulty("fog;", 1, 3);
        DUE.faulty("fog 1 x;", 1, 6);
        DUE.faulty("fog 1", 1, 5);
        DUE.faulty("light 0 0 1 1 1 5 l;", 1, 16);
        DUE.faulty("light 0 0 1 1 1 e 5;", 1, 18);
        DUE.faulty("light 0 0 1 1 e l;", 1, 14);
        DUE.faulty("light 0 0 1 1 1 e l", 1, 19);
    }

    private static void numberFaults() {
        DUE.promise(3);
        DUE.faulty("cape 00001 1;", 2, 5);
        DUE.faulty("cape 12345678901234567890 1;", 2, 5);
        DUE.faulty("x 12345", 1, 0);
        DUE.faulty("cape 1 1 12345", 1, 9);
        DUE.faulty("sea 0 4;", 2, 4);
        DUE.faulty("sea 13 4;", 2, 4);
        DUE.faulty("sea 4 0;", 2, 6);
        DUE.faulty("sea 4 13;", 2, 6);
        DUE.faulty("sea 2 3;cape 2 0;", 2, 13);
        DUE.faulty("sea 2 3;cape 0 3;", 2, 15);
        DUE.faulty("cape 8 0;", 2, 5);
        DUE.faulty("light 0 0 0 0 0 e l;", 2, 10);
        DUE.faulty("light 0 0 13 0 0 e l;", 2, 10);
        DUE.faulty("light 0 0 1 201 0 e l;", 2, 12);
        DUE.faulty("light 0 0 1 1 10 e l;", 2, 14);
        DUE.faulty("ship 0 0 13;", 2, 9);
        DUE.faulty("fog 0 10;", 2, 6);
        DUE.faulty("fog 0 12345;", 2, 6);
    }

    private static void tooManyFaults() {
        DUE.promise(3);
        StringBuilder s = new StringBuilder();
        for (int i = 0; i < 12; i++) {
            s.append("cape ").append(i % 8).append(' ').append(i / 8).append(';');
        }
        DUE.is("twelve capes", DUE.of(s.toString()).count(2), 12);
        DUE.faulty(s + "cape", 2, 108);
        s.setLength(0);
        for (int i = 0; i < 5; i++) {
            s.append("light ").append(i).append(" 0 1 0 0 o l;");
        }
        DUE.is("five lights", DUE.of(s.toString()).count(3), 5);
        DUE.faulty(s + "light x", 2, 100);
        s.setLength(0);
        for (int i = 0; i < 8; i++) {
            s.append("ship ").append(i).append(" 0 0;");
        }
        DUE.is("eight ships", DUE.of(s.toString()).count(4), 8);
        DUE.faulty(s + "ship 0 0 0;", 2, 88);
        DUE.of("fog 0 1 2 3 4 5 6 7;");
        DUE.faulty("fog 0 1 2 3 4 5 6 7 8;", 2, 20);
        DUE.faulty("fog 0;fog 1;", 5, 6);
        DUE.faulty("fog 0;cape 0 0;fog", 5, 15);
        DUE.is("three laws", DUE.of("yields 1;yields 2;yields 3;").count(5), 3);
        DUE.faulty("yields 1;yields 2;yields 3;yields", 2, 27);
    }

    private static void wordFaults() {
        DUE.promise(3);
        DUE.faulty("light 0 0 1 1 1 neswox l;", 3, 16);
        DUE.faulty("light 0 0 1 1 1 neswoneswones l;", 2, 16);
        DUE.faulty("light 0 0 1 1 1 neswoneswonex l;", 3, 16);
        DUE.faulty("light 0 0 1 1 1 l l;", 3, 16);
        DUE.faulty("light 0 0 1 1 1 e lke;", 3, 18);
        DUE.faulty("light 0 0 1 1 1 e lklklkl;", 2, 18);
        DUE.faulty("light 0 0 1 1 1 e lklklkx;", 3, 18);
        DUE.faulty("light 0 0 1 1 1 e;", 1, 17);
    }

    private static void cellFaults() {
        DUE.promise(3);
        String light = "light 2 1 1 1 1 e l;";
        DUE.faulty(light + "light 2 1 1 1 1 e l;", 4, 28);
        DUE.faulty(light + "cape 2 1;", 4, 27);
        DUE.faulty("ship 2 1 1;cape 2 1;", 4, 18);
        DUE.faulty("ship 2 1 1;ship 2 1 1;", 4, 18);
        DUE.faulty("cape 2 1;cape 2 1;", 4, 16);
        DUE.faulty("cape 2 1;ship 2 1 1;", 4, 16);
        DUE.faulty("cape 2 1;light 2 1 99;", 4, 17);
        DUE.is("a light and a ship in one cell", DUE.of(light + "ship 2 1 0;").ship(0, 0), 10);
        DUE.is("a ship and a light in one cell", DUE.of("ship 2 1 0;" + light).light(0, 0), 10);
    }

    private static void lawFaults() {
        DUE.promise(3);
        DUE.faulty("yields;", 1, 6);
        DUE.faulty("yields -1;", 1, 7);
        DUE.faulty("yields 1", 1, 8);
        DUE.faulty("yields 1+", 1, 9);
        DUE.faulty("yields 1 2;", 1, 9);
        DUE.faulty("yields 1 12345;", 1, 9);
        DUE.faulty("yields 1<2<3;", 1, 10);
        DUE.faulty("yields 1=2<3;", 1, 10);
        DUE.faulty("yields rank oil;", 1, 12);
        DUE.faulty("yields 1 not 2;", 1, 9);
        DUE.faulty("yields not;", 1, 10);
        DUE.faulty("yields ();", 1, 8);
        DUE.faulty("yields (1;", 1, 9);
        DUE.faulty("yields 1);", 1, 8);
        DUE.faulty("yields 1>2;", 1, 8);
        DUE.faulty("yields 12345;", 2, 7);
        DUE.faulty("yields 1+00000;", 2, 9);
        DUE.faulty("yields or;", 3, 7);
        DUE.faulty("yields sea;", 3, 7);
        DUE.faulty("yields rankx;", 3, 7);
        DUE.faulty("yields 1<not 2;", 3, 9);
        DUE.faulty("yields 1+not 2;", 3, 9);
        DUE.faulty("yields 1 and and 2;", 3, 13);
        DUE.faulty("yields not not not not not not not 1;", 2, 31);
        DUE.faulty("yields 1 and not not\nnot not not not not 1;", 2, 37);
        DUE.faulty("yields ((((((1))))));", 2, 13);
        DUE.faulty("yields ((((((x))))));", 2, 13);
        DUE.faulty("yields ((((((not 1))))));", 2, 13);
        DUE.faulty("yields (((((((", 2, 13);
        DUE.faulty("yields ((((((12345", 2, 13);
        DUE.faulty("yields (((((();", 1, 13);
        DUE.faulty("yields ((((((;", 1, 13);
        DUE.faulty("yields ((((((", 1, 13);
    }

    private static void textsWithoutFault() {
        DUE.promise(3);
        DUE.is("blanks ahead", DUE.of(" \n sea 2 3;\n").count(1), 3);
        DUE.is("no blanks", DUE.of("sea6 4;cape1 0001;").count(0), 6);
        DUE.of("yields (((((1)))));");
        DUE.of("yields not not not not not not 1;");
        DUE.of("yields not not not not not not (not 1);");
        DUE.of("yields not 1 or not not not 2 and not 3;");
        DUE.of("yields 9999*rank/oil-light+hour<reach;");
        DUE.of("sea 12 12;cape 11 11;");
        DUE.of("light 7 7 12 200 9 neswoneswone lklklk;ship 7 7 12;fog 9;");
    }

    private static void counts() {
        DUE.promise(5);
        SailingLights x = DUE.of("sea 5 3;cape 1 1;cape 2 2;light 0 0 1 9 1 e l;ship 2 0 3;yields 1;yields 2;yields 3;");
        x.fill(0, 1);
        x.fill(0, 2);
        x.fill(0, 201);
        x.log(0, 0, 0, true);
        x.feed(0, 0, 0, 0, 0);
        int[] want = {5, 3, 2, 1, 1, 3, 0, 2, 1, 20, 0, 1, 0};
        for (int what = 0; what < want.length; what++) {
            DUE.is("count(" + what + ")", x.count(what), want[what]);
        }
        DUE.missing("count(13)", () -> x.count(13));
        DUE.missing("count(-1)", () -> x.count(-1));
    }

    private static void lights() {
        DUE.promise(6);
        SailingLights x = DUE.of("sea 5 3;light 3 2 7 150 4 neo kllk;light 0 0 1 0 0 o l;");
        int[] want = {13, 7, 150, 4, 3, 4, 6};
        for (int what = 0; what < want.length; what++) {
            DUE.is("light(0, " + what + ")", x.light(0, what), want[what]);
        }
        DUE.is("light(1, 6)", x.light(1, 6), 1);
        DUE.missing("light(0, 7)", () -> x.light(0, 7));
        DUE.missing("light(0, -1)", () -> x.light(0, -1));
        DUE.missing("light(2, 0)", () -> x.light(2, 0));
        DUE.missing("light(-1, 0)", () -> x.light(-1, 0));
    }
}
