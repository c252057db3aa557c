/** Promises 14 to 19, 28 to 31, 41 and 42: acts and their undoing, the log, the image. */
final class ActsTest {
    private static final Due DUE = new Due("ActsTest");
    private static final String COAST =
        "sea 6 4;cape 3 1;light 0 0 5 100 3 e l;light 5 3 4 3 7 o k;ship 2 0 3;ship 5 1 12;yields rank;yields 0-rank;";

    public static void main(String[] args) {
        fill();
        moor();
        push();
        obey();
        want();
        undo();
        fortyActs();
        log();
        falsely();
        begun();
        image();
        DUE.end();
    }

    private static void refused(SailingLights x, String call, int got, int status) {
        DUE.is(call, got, -1);
        DUE.is(call + ": status 1", x.count(11), status);
    }

    private static void fill() {
        DUE.promise(14);
        SailingLights x = DUE.of(COAST);
        DUE.is("fill(0, 12)", x.fill(0, 12), 100);
        DUE.is("as told", x.light(0, 2), 12);
        DUE.is("it burns no longer", x.watch(0, 1), 0);
        DUE.is("fill(0, 0)", x.fill(0, 0), 12);
        DUE.is("fill(0, 200)", x.fill(0, 200), 0);
        DUE.is("acts", x.count(7), 3);
        refused(x, "fill(0, 201)", x.fill(0, 201), 1);
        refused(x, "fill(0, -1)", x.fill(0, -1), 2);
        DUE.missing("fill(2, 0)", () -> x.fill(2, 0));
        DUE.missing("fill(-1, 999)", () -> x.fill(-1, 999));
        DUE.is("no more status", x.count(11), 2);
        DUE.is("no more acts", x.count(7), 3);
    }

    private static void moor() {
        DUE.promise(15);
        SailingLights x = DUE.of(COAST);
        refused(x, "a cape", x.moor(0, 9), 1);
        refused(x, "another ship", x.moor(0, 11), 2);
        refused(x, "no cell", x.moor(0, 24), 3);
        refused(x, "no cell below 0", x.moor(0, -1), 4);
        DUE.is("its own cell", x.moor(0, 2), 2);
        DUE.is("a light's cell", x.moor(0, 23), 2);
        DUE.is("ship(0, 0)", x.ship(0, 0), 23);
        DUE.is("what it sees", x.seen(0, 12), 3);
        DUE.is("the cell that is free now", x.moor(1, 2), 11);
        DUE.is("acts", x.count(7), 3);
        DUE.missing("moor(2, 0)", () -> x.moor(2, 0));
        DUE.missing("moor(-1, -1)", () -> x.moor(-1, -1));
    }

    private static void push() {
        DUE.promise(16);
        SailingLights x = DUE.of(COAST);
        refused(x, "a cape", x.push(0, 9), 1);
        refused(x, "another light", x.push(0, 23), 2);
        refused(x, "no cell", x.push(0, 24), 3);
        refused(x, "no cell below 0", x.push(0, Integer.MIN_VALUE), 4);
        DUE.is("its own cell", x.push(0, 0), 0);
        DUE.is("a ship's cell", x.push(0, 2), 0);
        DUE.is("light(0, 0)", x.light(0, 0), 2);
        DUE.is("where(0, 0)", x.where(0, 0), 2);
        DUE.is("where(0, 1)", x.where(0, 1), 3);
        DUE.is("where another one is later", x.push(1, 5), 23);
        DUE.missing("push(2, 0)", () -> x.push(2, 0));
        DUE.missing("push(-1, -1)", () -> x.push(-1, -1));
    }

    private static void obey() {
        DUE.promise(17);
        SailingLights x = DUE.of("light 0 0 1 0 3 e l;light 2 0 1 0 7 w l;yields 0-rank;yields 5;");
        DUE.is("law 0 at first", x.count(6), 0);
        DUE.is("light 0 ahead", x.where(0, 1), 1);
        DUE.is("obey(-1)", x.obey(-1), true);
        DUE.is("count(6)", x.count(6), -1);
        DUE.is("light 1 ahead", x.where(0, 1), 0);
        DUE.is("obey(1)", x.obey(1), true);
        DUE.is("count(6)", x.count(6), 1);
        DUE.is("the lesser ahead", x.where(0, 1), 1);
        DUE.is("the same again", x.obey(1), true);
        DUE.is("obey(2)", x.obey(2), false);
        DUE.is("obey(-2)", x.obey(-2), false);
        DUE.is("status 1", x.count(11), 2);
        DUE.is("acts", x.count(7), 3);
        SailingLights none = new SailingLights();
        DUE.is("no law but none", none.obey(-1), true);
        DUE.is("no law 0", none.obey(0), false);
    }

    private static void want() {
        DUE.promise(18);
        SailingLights x = DUE.of(COAST);
        DUE.is("want(0, 12)", x.want(0, 12), 3);
        DUE.is("ship(0, 1)", x.ship(0, 1), 12);
        DUE.is("content(8)", x.content(8), 0);
        DUE.is("want(0, 0)", x.want(0, 0), 12);
        DUE.is("content(9)", x.content(9), 1);
        refused(x, "want(0, 13)", x.want(0, 13), 1);
        refused(x, "want(0, -1)", x.want(0, -1), 2);
        DUE.missing("want(2, 1)", () -> x.want(2, 1));
        DUE.missing("want(-1, 13)", () -> x.want(-1, 13));
    }

    private static void undo() {
        DUE.promise(19);
        SailingLights x = DUE.of(COAST);
        DUE.is("nothing to undo", x.undo(), -1);
        DUE.is("it is no refused act", x.count(11), 0);
        x.fill(0, 12);
        x.moor(0, 23);
        x.moor(1, 2);
        x.push(0, 1);
        x.push(1, 0);
        x.obey(1);
        x.want(1, 5);
        DUE.is("undo want", x.undo(), 6);
        DUE.is("want", x.ship(1, 1), 12);
        DUE.is("undo obey", x.undo(), 5);
        DUE.is("law", x.count(6), 0);
        DUE.is("undo push", x.undo(), 4);
        DUE.is("light 1", x.light(1, 0), 23);
        DUE.is("undo push", x.undo(), 3);
        DUE.is("light 0", x.where(0, 0), 0);
        DUE.is("undo moor", x.undo(), 2);
        DUE.is("ship 1", x.ship(1, 0), 11);
        DUE.is("undo moor", x.undo(), 1);
        DUE.is("ship 0", x.ship(0, 0), 2);
        DUE.is("what it sees", x.seen(0, 12), 1);
        DUE.is("undo fill", x.undo(), 0);
        DUE.is("oil", x.light(0, 2), 100);
        DUE.is("watch", x.watch(0, 1), 12);
        DUE.is("all undone", x.undo(), -1);
    }

    private static void fortyActs() {
        DUE.promise(19);
        SailingLights x = DUE.of(COAST);
        for (int i = 1; i <= 45; i++) {
            DUE.is("fill " + i, x.fill(0, i), i == 1 ? 100 : i - 1);
            DUE.is("kept " + i, x.count(7), Math.min(i, 40));
        }
        for (int i = 39; i >= 0; i--) {
            DUE.is("left", x.undo(), i);
            DUE.is("oil", x.light(0, 2), i + 5);
        }
        DUE.is("no more", x.undo(), -1);
        DUE.is("the oldest are gone", x.light(0, 2), 5);
        mixedActs();
    }

    /** Of 49 acts of all kinds forty are kept; with these undone all is as behind the first nine. */
    private static void mixedActs() {
        SailingLights x = DUE.of(COAST);
        SailingLights nine = DUE.of(COAST);
        for (int i = 0; i < 49; i++) {
            drawnAct(x, i);
            if (i < 9) {
                drawnAct(nine, i);
            }
        }
        DUE.is("none was refused", x.count(11), 0);
        for (int i = 39; i >= 0; i--) {
            DUE.is("left", x.undo(), i);
        }
        DUE.is("no more", x.undo(), -1);
        for (int which = 0; which < 2; which++) {
            DUE.is("begins " + which, x.light(which, 0), nine.light(which, 0));
            DUE.is("oil " + which, x.light(which, 2), nine.light(which, 2));
            DUE.is("moored " + which, x.ship(which, 0), nine.ship(which, 0));
            DUE.is("want " + which, x.ship(which, 1), nine.ship(which, 1));
        }
        DUE.is("law", x.count(6), nine.count(6));
    }

    private static void drawnAct(SailingLights x, int i) {
        int which = i % 2;
        int cell = 12 + i % 5 + which * 6;
        switch (i * i % 7 + i % 3) {
            case 0: case 5: x.fill(which, i); break;
            case 1: case 6: x.moor(which, cell); break;
            case 2: case 4: x.push(which, cell); break;
            case 3: x.obey(i % 3 - 1); break;
            default: x.want(which, i % 13); break;
        }
    }

    private static void log() {
        DUE.promise(28);
        SailingLights x = DUE.of(COAST);
        DUE.missing("log(2, 0, 0)", () -> x.log(2, 0, 0, true));
        DUE.missing("log(0, 240, 0)", () -> x.log(0, 240, 0, true));
        DUE.missing("log(0, 0, 2)", () -> x.log(0, 0, 2, true));
        for (int i = 1; i <= 8; i++) {
            DUE.is("log " + i, x.log(0, 12, 0, true), i);
        }
        DUE.is("log 9", x.log(0, 12, 0, true), -1);
        DUE.is("status 2", x.count(12), 1);
        DUE.missing("ahead of the ninth", () -> x.log(0, -1, 0, true));
        DUE.is("status 2 stays", x.count(12), 1);
        DUE.is("how much", x.count(8), 8);
        DUE.is("no act", x.count(7), 0);
        DUE.promise(29);
        x.forget();
        DUE.is("forgotten", x.count(8), 0);
        DUE.is("log anew", x.log(0, 12, 0, true), 1);
    }

    private static void falsely() {
        DUE.promise(30);
        SailingLights x = DUE.of(COAST);
        DUE.is("an empty log", x.falsely(), 0);
        x.log(0, 12, 0, true);
        x.log(0, 12, 1, true);
        x.log(0, 5, 0, true);
        x.log(0, 5, 0, false);
        DUE.is("two are false", x.falsely(), 2);
        x.fill(0, 0);
        DUE.is("three without oil", x.falsely(), 3);
        x.undo();
        x.forget();
        DUE.is("none", x.falsely(), 0);
    }

    private static void begun() {
        DUE.promise(31);
        SailingLights x = DUE.of("sea 5 1;cape 4 0;light 0 0 1 200 0 o l;light 1 0 1 200 0 o l;ship 3 0 0;");
        DUE.is("an empty log: all cells but a cape and the other's", x.begun(0, 0), 3);
        DUE.is("the least", x.begun(0, 1), 0);
        DUE.is("of light 1", x.begun(1, 1), 1);
        DUE.is("none false", x.begun(0, 2), 0);
        x.log(0, 12, 0, true);
        DUE.is("two near the ship", x.begun(0, 0), 2);
        DUE.is("the least of these", x.begun(0, 1), 2);
        DUE.is("none false", x.begun(0, 2), 0);
        DUE.is("light 1 can't make it so", x.begun(1, 0), 0);
        DUE.is("nowhere", x.begun(1, 1), -1);
        DUE.is("one false", x.begun(1, 2), 1);
        x.log(0, 12, 0, false);
        DUE.is("never both", x.begun(0, 0), 0);
        DUE.is("one false at least", x.begun(0, 2), 1);
        DUE.is("nothing was pushed", x.light(0, 0), 0);
        DUE.missing("begun(0, 3)", () -> x.begun(0, 3));
        DUE.missing("begun(0, -1)", () -> x.begun(0, -1));
        DUE.missing("begun(2, 0)", () -> x.begun(2, 0));
        // Where light 0 begins decides how far light 1 can go.
        SailingLights way = DUE.of("sea 5 1;light 4 0 1 0 0 o l;light 0 0 1 200 0 e l;ship 4 0 0;");
        way.log(0, 12, 1, false);
        DUE.is("it stood in the way", way.begun(0, 0), 3);
        DUE.is("the least", way.begun(0, 1), 1);
    }

    private static void image() {
        DUE.promise(41);
        SailingLights x = DUE.of(COAST);
        DUE.is("no image", x.restore(), false);
        x.want(0, 12);
        x.log(0, 1, 0, true);
        x.image();
        x.fill(0, 0);
        x.moor(0, 23);
        x.push(0, 1);
        x.want(0, 1);
        x.obey(1);
        x.fill(0, 201);
        x.log(0, 2, 0, false);
        DUE.promise(42);
        DUE.is("restore()", x.restore(), true);
        DUE.is("oil", x.light(0, 2), 100);
        DUE.is("ship", x.ship(0, 0), 2);
        DUE.is("light", x.light(0, 0), 0);
        DUE.is("where", x.where(0, 1), 1);
        DUE.is("want", x.ship(0, 1), 12);
        DUE.is("law", x.count(6), 0);
        DUE.is("acts", x.count(7), 1);
        DUE.is("log", x.count(8), 1);
        DUE.is("status stays", x.count(11), 1);
        DUE.is("undo", x.undo(), 0);
        DUE.is("want ahead of the image", x.ship(0, 1), 3);
        x.forget();
        DUE.is("the image stays", x.restore(), true);
        DUE.is("want again", x.ship(0, 1), 12);
        DUE.is("log again", x.count(8), 1);
        x.fill(0, 7);
        x.image();
        x.fill(0, 8);
        x.restore();
        DUE.is("in place of another one", x.light(0, 2), 7);
        DUE.is("two acts", x.count(7), 2);
        imageKeepsActsAndLog();
    }

    /** Acts and log entries that were put in the places of those in the image don't change them. */
    private static void imageKeepsActsAndLog() {
        DUE.promise(42);
        SailingLights x = DUE.of(COAST);
        x.fill(0, 50);
        x.want(1, 7);
        x.log(0, 12, 1, false);
        x.log(1, 12, 0, true);
        x.image();
        x.undo();
        x.undo();
        x.moor(1, 3);
        x.push(0, 4);
        x.obey(-1);
        x.forget();
        x.log(1, 13, 0, false);
        x.log(0, 14, 0, false);
        x.log(0, 14, 0, false);
        DUE.is("three are false", x.falsely(), 3);
        x.restore();
        DUE.is("none is false", x.falsely(), 0);
        DUE.is("the want", x.ship(1, 1), 7);
        DUE.is("undo the want", x.undo(), 1);
        DUE.is("the want as it was", x.ship(1, 1), 12);
        DUE.is("the oil", x.light(0, 2), 50);
        DUE.is("undo the oil", x.undo(), 0);
        DUE.is("the oil as it was", x.light(0, 2), 100);
        DUE.is("the ship", x.ship(1, 0), 11);
        DUE.is("the light", x.light(0, 0), 0);
    }
}
