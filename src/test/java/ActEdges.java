/** Every boundary case of promises 14 to 19, 28 to 31, 41 and 42, each under the words that name it. */
final class ActEdges {
    private static final String COAST =
        "sea 6 4;cape 3 1;light 0 0 5 100 3 e l;light 5 3 4 3 7 o k;ship 2 0 3;ship 5 1 12;yields rank;yields 0-rank;";

    private final Due due;

    private ActEdges(Due due) {
        this.due = due;
    }

    static void run(Due due) {
        ActEdges edges = new ActEdges(due);
        edges.fill();
        edges.moor();
        edges.push();
        edges.obey();
        edges.want();
        edges.undo();
        edges.fortyActs();
        edges.fortyOfAllKinds();
        edges.log();
        edges.forget();
        edges.falsely();
        edges.begun();
        edges.leastFalse();
        edges.image();
        edges.restore();
        edges.manyCalls();
    }

    /** Calls that are refused: each counts for STATUS 1, is no act and changes nothing. */
    private void refused(SailingLights x, String name, Due.Call... calls) {
        for (Due.Call call : calls) {
            int before = x.count(11);
            String state = state(x);
            due.is(name, call.answer(), -1);
            due.is(name + ": STATUS 1", x.count(11), before + 1);
            due.is(name + ": all else stays", state(x).equals(state), true);
        }
    }

    private static String state(SailingLights x) {
        StringBuilder s = new StringBuilder();
        for (int what = 0; what < 13; what++) {
            s.append(what == 11 ? 0 : x.count(what)).append(' ');
        }
        for (int light = 0; light < x.count(3); light++) {
            s.append(x.light(light, 0)).append(' ').append(x.light(light, 2)).append(' ').append(x.where(light, 1)).append(' ');
        }
        for (int ship = 0; ship < x.count(4); ship++) {
            s.append(x.ship(ship, 0)).append(' ').append(x.ship(ship, 1)).append(' ').append(x.seen(ship, 12)).append(' ');
        }
        return s.toString();
    }

    private void fill() {
        due.promise(14, "OIL: as it was.");
        SailingLights x = due.of(COAST);
        due.is("fill(0, 0)", x.fill(0, 0), 100);
        due.is("none is left", x.light(0, 2), 0);
        due.is("it isn't lit", x.lamp(0, 12, 1), 0);
        due.is("fill(0, 200)", x.fill(0, 200), 0);
        due.is("all of it", x.light(0, 2), 200);
        due.is("the same again", x.fill(0, 200), 200);
        due.is("three acts", x.count(7), 3);
        due.is("the other one stays", x.light(1, 2), 3);
        due.promise(14, "NONE (STATUS 1): not 0 to 200.");
        refused(x, "fill", () -> x.fill(0, -1), () -> x.fill(0, 201), () -> x.fill(1, Integer.MIN_VALUE), () -> x.fill(1, Integer.MAX_VALUE));
        due.promise(14, "OIL of a LIGHT (as told) becomes another;");
        SailingLights y = due.of("sea 3 1;light 0 0 1 9 0 eoooooooooow l;light 2 0 1 0 0 wooooooooooe l;ship 1 0 0;yields oil;");
        due.is("light 0 has more", y.where(0, 1), 1);
        y.fill(1, 10);
        due.is("light 1 has more", y.where(1, 1), 1);
        due.is("watch by what there is now", y.watch(0, 0), 10);
        y.undo();
        due.is("light 0 has more again", y.where(0, 1), 1);
        due.is("watch as it was", y.watch(0, 0), 9);
    }

    private void moor() {
        due.promise(15, "MOORED: the CELL as it was.");
        SailingLights x = due.of(COAST);
        due.is("the first cell", x.moor(0, 0), 2);
        due.is("the last cell, a light's", x.moor(0, 23), 0);
        due.is("its own cell", x.moor(0, 23), 23);
        due.is("what the other left is free", x.moor(1, 2), 11);
        due.is("four acts", x.count(7), 4);
        due.is("what it sees from there", x.seen(0, 12), 3);
        due.promise(15, "NONE (STATUS 1): no such CELL, a CAPE, another SHIP is there.");
        refused(x, "no such cell", () -> x.moor(0, -1), () -> x.moor(0, 24), () -> x.moor(1, Integer.MIN_VALUE),
            () -> x.moor(1, Integer.MAX_VALUE));
        refused(x, "a cape", () -> x.moor(0, 9), () -> x.moor(1, 9));
        refused(x, "another ship", () -> x.moor(0, 2), () -> x.moor(1, 23));
        SailingLights small = due.of("sea 3 2;ship 0 0 0;");
        refused(small, "no such cell of a small sea", () -> small.moor(0, 6));
        due.is("the last one of it", small.moor(0, 5), 0);
        SailingLights one = due.of("sea 1 1;ship 0 0 0;");
        due.is("the only one", one.moor(0, 0), 0);
        refused(one, "no such cell of a sea of one", () -> one.moor(0, 1));
        due.promise(15, "a SHIP is MOORED at another CELL;");
        SailingLights y = due.of("sea 12 1;light 0 0 3 200 0 o l;ship 3 0 0;");
        due.is("seen", y.watch(0, 0), 12);
        y.moor(0, 4);
        due.is("too far", y.watch(0, 0), 0);
        y.undo();
        due.is("seen again", y.watch(0, 0), 12);
    }

    private void push() {
        due.promise(16, "PUSHED: the CELL as it was.");
        SailingLights x = due.of(COAST);
        due.is("a ship's cell", x.push(0, 2), 0);
        due.is("its own cell", x.push(0, 2), 2);
        due.is("what the other left is free", x.push(1, 0), 23);
        due.is("the last cell", x.push(0, 23), 2);
        due.is("four acts", x.count(7), 4);
        due.is("where it begins", x.where(0, 0), 23);
        due.promise(16, "NONE (STATUS 1): no such CELL, a CAPE, another LIGHT begins there.");
        refused(x, "no such cell", () -> x.push(0, -1), () -> x.push(0, 24), () -> x.push(1, Integer.MIN_VALUE),
            () -> x.push(1, Integer.MAX_VALUE));
        refused(x, "a cape", () -> x.push(0, 9), () -> x.push(1, 9));
        refused(x, "another light", () -> x.push(0, 0), () -> x.push(1, 23));
        SailingLights one = due.of("sea 1 1;light 0 0 1 0 0 n l;");
        due.is("the only one", one.push(0, 0), 0);
        refused(one, "no such cell of a sea of one", () -> one.push(0, 1));
        due.promise(16, "a LIGHT is PUSHED to begin in another CELL;");
        SailingLights y = due.of("sea 12 1;light 0 0 1 200 0 e l;light 6 0 1 0 0 w l;ship 11 0 0;");
        due.is("where another one comes later", y.push(1, 11), 6);
        due.is("it hinders only where it is", y.where(0, 5), 5);
        y.push(1, 1);
        due.is("in the way at once", y.where(0, 1), 0);
        y.undo();
        due.is("out of the way again", y.where(0, 1), 1);
    }

    private void obey() {
        due.promise(17, "The LAW in force (NONE: none): true.");
        SailingLights x = due.of("light 0 0 1 0 3 e l;light 1 0 1 0 7 e l;yields 0-rank;yields 1;yields rank;");
        due.is("law 2", x.obey(2), true);
        due.is("in force", x.count(6), 2);
        due.is("light 1 first", x.where(0, 1), 1);
        due.is("law 0", x.obey(0), true);
        due.is("light 0 first", x.where(0, 1), 0);
        due.is("none", x.obey(-1), true);
        due.is("none in force", x.count(6), -1);
        due.is("by rank", x.where(0, 1), 1);
        due.is("none again", x.obey(-1), true);
        due.is("four acts", x.count(7), 4);
        due.promise(17, "False (STATUS 1): there is no such one.");
        refused(x, "obey", () -> x.obey(3) ? 1 : -1, () -> x.obey(-2) ? 1 : -1, () -> x.obey(Integer.MIN_VALUE) ? 1 : -1,
            () -> x.obey(Integer.MAX_VALUE) ? 1 : -1);
        SailingLights none = due.of("light 0 0 1 0 3 e l;");
        refused(none, "without laws", () -> none.obey(0) ? 1 : -1);
        due.is("none may be, without laws too", none.obey(-1), true);
        due.is("it is an act", none.undo(), 0);
        due.promise(17, "the LAW in force becomes another, or none;");
        x.obey(2);
        x.undo();
        due.is("undone to none", x.count(6), -1);
        x.undo();
        x.undo();
        due.is("undone to law 0", x.count(6), 0);
        due.is("light 0 first", x.where(0, 1), 0);
    }

    private void want() {
        due.promise(18, "WANT: as it was.");
        SailingLights x = due.of(COAST);
        due.is("want(0, 0)", x.want(0, 0), 3);
        due.is("content without oil", x.content(9) & 1, 1);
        due.is("want(0, 12)", x.want(0, 12), 0);
        due.is("not content", x.content(9) & 1, 0);
        due.is("the same again", x.want(0, 12), 12);
        due.is("three acts", x.count(7), 3);
        due.promise(18, "NONE (STATUS 1): not 0 to 12.");
        refused(x, "want", () -> x.want(0, -1), () -> x.want(0, 13), () -> x.want(1, Integer.MIN_VALUE), () -> x.want(1, Integer.MAX_VALUE));
        due.promise(18, "WANT of a SHIP becomes another.");
        due.is("of the other ship", x.want(1, 1), 12);
        due.is("ship(1, 1)", x.ship(1, 1), 1);
        due.is("ship(0, 1)", x.ship(0, 1), 12);
        x.undo();
        due.is("undone", x.ship(1, 1), 12);
    }

    private void undo() {
        due.promise(19, "The last ACT is UNDONE: how many are left.");
        SailingLights x = due.of(COAST);
        String[] states = new String[8];
        Due.Call[] acts = {() -> x.fill(0, 0), () -> x.moor(0, 23), () -> x.push(1, 22), () -> x.obey(1) ? 1 : 0, () -> x.want(0, 9),
            () -> x.obey(-1) ? 1 : 0, () -> x.fill(0, 200)};
        for (int i = 0; i < 7; i++) {
            states[i] = state(x);
            acts[i].answer();
            x.fill(0, 201);
        }
        due.is("refused ones are not kept", x.count(7), 7);
        due.promise(19, "They are UNDONE, the last one first.");
        for (int i = 6; i >= 0; i--) {
            due.is("left", x.undo(), i);
            due.is("all as ahead of act " + i, state(x).equals(states[i]), true);
        }
        due.promise(19, "NONE: there is none.");
        String state = state(x);
        due.is("none is left", x.undo(), -1);
        due.is("and none again", x.undo(), -1);
        due.is("it changes nothing", state(x).equals(state), true);
        due.is("it is no refused act", x.count(11), 7);
        due.is("a new object has none", new SailingLights().undo(), -1);
        x.want(0, 1);
        due.is("one act", x.undo(), 0);
        due.is("and then none", x.undo(), -1);
        x.log(0, 0, 0, true);
        x.forget();
        x.log(0, 0, 0, true);
        due.is("the log is no act", x.undo(), -1);
        due.is("and stays", x.count(8), 1);
    }

    private void fortyActs() {
        due.promise(19, "ACTS (at most 40 are kept, the latest ones):");
        for (int many : new int[] {39, 40, 41, 80, 81}) {
            SailingLights x = due.of(COAST);
            for (int i = 1; i <= many; i++) {
                x.fill(0, i);
            }
            int kept = Math.min(many, 40);
            due.is(many + " acts: kept", x.count(7), kept);
            for (int left = kept - 1; left >= 0; left--) {
                due.is(many + " acts: left", x.undo(), left);
            }
            due.is(many + " acts: no more", x.undo(), -1);
            due.is(many + " acts: the oil", x.light(0, 2), many <= 40 ? 100 : many - 40);
            x.fill(0, 7);
            due.is(many + " acts: one more", x.count(7), 1);
        }
    }

    private void actOf(SailingLights x, int i) {
        int round = i / 5;
        switch (i % 5) {
            case 0: due.is("fill", x.fill(round % 2, 10 + round) >= 0, true); break;
            case 1: due.is("moor", x.moor(round % 2, 12 + round) >= 0, true); break;
            case 2: due.is("push", x.push(round % 2, 12 + round) >= 0, true); break;
            case 3: due.is("obey", x.obey(round % 3 - 1), true); break;
            default: due.is("want", x.want(round % 2, round) >= 0, true); break;
        }
    }

    /** Acts of all five kinds by turns: with forty undone all is as behind those ahead of them. */
    private void fortyOfAllKinds() {
        due.promise(19, "ACTS (at most 40 are kept, the latest ones):");
        for (int gone = 0; gone <= 12; gone++) {
            SailingLights x = due.of(COAST);
            String[] states = new String[60];
            for (int i = 0; i < gone + 40; i++) {
                states[i] = things(x);
                actOf(x, i);
            }
            for (int left = 39; left >= 0; left--) {
                due.is("left", x.undo(), left);
                due.is("as ahead of the act", things(x).equals(states[gone + left]), true);
            }
            due.is("no more", x.undo(), -1);
            due.is("as ahead of the forty", things(x).equals(states[gone]), true);
        }
    }

    /** What acts change, and nothing else. */
    private static String things(SailingLights x) {
        StringBuilder s = new StringBuilder().append(x.count(6));
        for (int which = 0; which < 2; which++) {
            s.append(' ').append(x.light(which, 0)).append(' ').append(x.light(which, 2)).append(' ').append(x.ship(which, 0)).append(' ')
                .append(x.ship(which, 1));
        }
        return s.toString();
    }

    private void log() {
        due.promise(28, "A LOG (at most 8): from a SHIP in an HOUR a LIGHT was SEEN, or wasn't.");
        SailingLights x = due.of(COAST);
        due.promise(28, "A LOG: how much is.");
        for (int i = 1; i <= 8; i++) {
            due.is("log " + i, x.log(i % 2, i * 29, i % 2, i < 4), i);
            due.is("count(8)", x.count(8), i);
        }
        due.promise(28, "NONE (STATUS 2): there are 8.");
        for (int i = 1; i <= 3; i++) {
            due.is("log 9", x.log(0, 12, 0, true), -1);
            due.is("STATUS 2", x.count(12), i);
            due.is("count(8)", x.count(8), 8);
        }
        due.is("no refused act", x.count(11), 0);
        due.promise(28, "NoSuchElementException (ahead): no such SHIP, HOUR, LIGHT.");
        due.missing("ship 2", () -> x.log(2, 12, 0, true));
        due.missing("ship -1", () -> x.log(-1, 12, 0, true));
        due.missing("hour 240", () -> x.log(0, 240, 0, true));
        due.missing("hour -1", () -> x.log(0, -1, 0, true));
        due.missing("light 2", () -> x.log(0, 12, 2, true));
        due.missing("light -1", () -> x.log(0, 12, -1, true));
        due.is("STATUS 2 stays", x.count(12), 3);
        SailingLights y = due.of(COAST);
        due.missing("light 2 of an empty log", () -> y.log(0, 12, 2, true));
        due.is("nothing came", y.count(8), 0);
        due.is("the last hour", y.log(1, 239, 1, false), 1);
        due.is("the first hour", y.log(0, 0, 0, false), 2);
        due.is("what is false too", y.log(0, 0, 0, true), 3);
    }

    private void forget() {
        due.promise(29, "The LOG is empty.");
        SailingLights x = due.of(COAST);
        x.forget();
        due.is("it was empty", x.count(8), 0);
        for (int round = 0; round < 2; round++) {
            for (int i = 1; i <= 9; i++) {
                x.log(0, 0, 0, true);
            }
            due.is("all false", x.falsely(), 8);
            x.forget();
            due.is("count(8)", x.count(8), 0);
            due.is("none false", x.falsely(), 0);
            due.is("STATUS 2 stays", x.count(12), round + 1);
        }
        due.is("the first again", x.log(0, 0, 0, true), 1);
        due.is("no act", x.count(7), 0);
    }

    private void falsely() {
        due.promise(30, "FALSE: how many of these aren't so.");
        SailingLights x = due.of(COAST);
        due.promise(30, "FALSE.");
        due.is("of an empty log", x.falsely(), 0);
        x.log(0, 12, 0, true);
        due.is("it was seen", x.falsely(), 0);
        x.log(0, 12, 0, false);
        due.is("both can't be", x.falsely(), 1);
        x.log(0, 11, 0, true);
        due.is("not by day", x.falsely(), 2);
        x.log(0, 11, 0, false);
        due.is("not seen by day", x.falsely(), 2);
        x.log(0, 12, 1, true);
        due.is("too far", x.falsely(), 3);
        x.log(1, 239, 0, true);
        due.is("no oil in the last hour", x.falsely(), 4);
        x.log(1, 239, 0, true);
        x.log(1, 239, 0, true);
        due.is("each one counts", x.falsely(), 6);
        x.fill(0, 120);
        due.is("with oil for it", x.falsely(), 3);
        x.undo();
        due.is("without it", x.falsely(), 6);
        x.fill(0, 0);
        due.is("nothing is seen", x.falsely(), 6);
        SailingLights all = due.of(COAST);
        for (int i = 0; i < 8; i++) {
            all.log(0, i, 0, true);
        }
        due.is("all eight", all.falsely(), 8);
    }

    private void begun() {
        due.promise(31, "BEGUN: CELLS (no CAPE, no other LIGHT begins there) in which a LIGHT might have begun, so that all of the LOG "
            + "were so: how many; the least; none.");
        SailingLights x = due.of("sea 5 1;cape 0 0;light 2 0 1 200 0 o l;light 1 0 1 200 0 o l;ship 4 0 0;");
        due.is("an empty log", x.begun(0, 0), 3);
        due.is("neither the cape nor the other's", x.begun(0, 1), 2);
        due.is("of the other", x.begun(1, 1), 1);
        x.log(0, 12, 0, true);
        due.is("seen from the end", x.begun(0, 0), 2);
        due.is("the least that is near", x.begun(0, 1), 3);
        x.log(0, 12, 1, false);
        due.is("the other is as it was", x.begun(0, 0), 2);
        x.log(0, 11, 0, true);
        due.is("never by day", x.begun(0, 0), 0);
        due.is("none", x.begun(0, 1), -1);
        due.promise(31, "BEGUN: how many (what 0), the least (1; NONE: none), THE LEAST FALSE (2).");
        SailingLights one = due.of("sea 1 1;light 0 0 1 200 0 o l;ship 0 0 0;");
        due.is("the only cell", one.begun(0, 0), 1);
        due.is("which", one.begun(0, 1), 0);
        due.is("none false", one.begun(0, 2), 0);
        one.log(0, 12, 0, false);
        due.is("not even the only cell", one.begun(0, 0), 0);
        due.is("none", one.begun(0, 1), -1);
        due.is("one false", one.begun(0, 2), 1);
        SailingLights wide = due.of("sea 12 12;light 0 0 1 200 0 o l;light 1 0 1 0 0 o l;light 2 0 1 0 0 o l;light 3 0 1 0 0 o l;"
            + "light 4 0 1 0 0 o l;ship 11 11 0;");
        due.is("all but the others'", wide.begun(0, 0), 140);
        due.is("where it did", wide.begun(0, 1), 0);
        wide.log(0, 239, 0, true);
        due.is("seen in the last hour", wide.begun(0, 0), 4);
        due.is("the least of four", wide.begun(0, 1), 130);
        due.is("nothing was pushed", wide.light(0, 0), 0);
        due.is("no act", wide.count(7), 0);
        wide.push(0, 143);
        due.is("where it begins now may be", wide.begun(0, 0), 4);
        due.is("its old cell is free", due.of("sea 2 1;light 0 0 1 0 0 o l;").begun(0, 0), 2);
    }

    private void leastFalse() {
        due.promise(31, "THE LEAST FALSE: how few of the LOG would be false, had a LIGHT begun elsewhere (or where it did).");
        SailingLights x = due.of("sea 6 1;light 0 0 1 200 0 o l;ship 0 0 0;ship 5 0 0;");
        due.is("of an empty log", x.begun(0, 2), 0);
        x.log(0, 12, 0, true);
        x.log(0, 13, 0, true);
        due.is("where it did", x.begun(0, 2), 0);
        x.log(1, 14, 0, true);
        due.is("never at both ends", x.begun(0, 2), 1);
        x.log(1, 15, 0, true);
        due.is("as many here as there", x.begun(0, 2), 2);
        x.log(1, 16, 0, true);
        due.is("elsewhere fewer are false", x.begun(0, 2), 2);
        due.is("where it did more are", x.falsely(), 3);
        due.is("none is without", x.begun(0, 0), 0);
        x.forget();
        for (int i = 0; i < 8; i++) {
            x.log(0, i, 0, true);
        }
        due.is("all eight at least", x.begun(0, 2), 8);
        SailingLights other = due.of("sea 6 1;light 0 0 1 200 0 e l;light 3 0 1 0 0 o l;ship 5 0 0;");
        other.log(0, 12, 0, true);
        due.is("the other stands in its way", other.falsely(), 1);
        due.is("from elsewhere it would not", other.begun(1, 2), 0);
        due.is("the least of these is the last cell: it is near enough behind it", other.begun(1, 1), 5);
        due.is("only there", other.begun(1, 0), 1);
    }

    private void image() {
        due.promise(41, "OIL, CELLS, WANTS, the LAW in force, ACTS and the LOG are kept as an image, in place of another one.");
        SailingLights x = due.of(COAST);
        x.fill(1, 50);
        x.log(0, 12, 0, true);
        x.log(1, 13, 1, false);
        x.image();
        String first = state(x);
        x.fill(0, 1);
        x.moor(0, 23);
        x.push(1, 22);
        x.want(1, 1);
        x.obey(1);
        x.forget();
        String second = state(x);
        due.is("all are others", second.equals(first), false);
        due.is("the first", x.restore(), true);
        due.is("as it was", state(x).equals(first), true);
        due.is("its log", x.falsely(), 1);
        due.is("its act", x.undo(), 0);
        due.is("undone as it was", x.light(1, 2), 3);
        x.restore();
        x.fill(0, 7);
        x.image();
        x.fill(0, 8);
        due.is("the second", x.restore(), true);
        due.is("in place of the first", x.light(0, 2), 7);
        due.is("and no more", x.count(7), 2);
        imageOfOtherActs();
        SailingLights none = new SailingLights();
        none.image();
        due.is("an image of nothing", none.restore(), true);
        due.is("no act", none.undo(), -1);
        SailingLights full = due.of(COAST);
        for (int i = 1; i <= 41; i++) {
            full.fill(0, i);
        }
        for (int i = 0; i < 8; i++) {
            full.log(0, 0, 0, true);
        }
        full.image();
        for (int i = 0; i < 40; i++) {
            full.undo();
        }
        full.forget();
        full.restore();
        due.is("forty acts", full.count(7), 40);
        due.is("eight of the log", full.count(8), 8);
        due.is("all false", full.falsely(), 8);
        for (int left = 39; left >= 0; left--) {
            due.is("left", full.undo(), left);
        }
        due.is("the oil behind the first act", full.light(0, 2), 1);
    }

    /** Acts and entries of the log that came in the places of those in the image don't change it. */
    private void imageOfOtherActs() {
        SailingLights x = due.of(COAST);
        for (int i = 0; i < 5; i++) {
            actOf(x, i);
        }
        x.log(0, 12, 0, true);
        x.log(1, 11, 0, false);
        x.log(0, 10, 1, true);
        int wrong = x.falsely();
        due.is("one is false", wrong, 1);
        x.image();
        for (int i = 0; i < 5; i++) {
            x.undo();
        }
        for (int i = 8; i < 13; i++) {
            actOf(x, i);
        }
        x.forget();
        for (int i = 0; i < 3; i++) {
            x.log(1, 239 - i, 1, i != 1);
        }
        x.restore();
        due.is("the log", x.falsely(), wrong);
        SailingLights same = due.of(COAST);
        for (int i = 0; i < 5; i++) {
            actOf(same, i);
        }
        for (int left = 4; left >= 0; left--) {
            due.is("left", x.undo(), left);
            same.undo();
            due.is("as if nothing had been between", things(x).equals(things(same)), true);
        }
        logOfImage(0, 12, 0, true);
        logOfImage(1, 12, 0, true);
        logOfImage(0, 13, 1, false);
        logOfImage(0, 5, 0, false);
    }

    /** An entry is as true as it was, behind another one in its place that differs in one thing. */
    private void logOfImage(int ship, int hour, int light, boolean was) {
        for (int other = 0; other < 4; other++) {
            SailingLights x = due.of("light 0 0 3 200 0 o l;light 7 7 3 200 0 o l;ship 1 1 0;ship 6 6 0;");
            x.log(ship, hour, light, was);
            int wrong = x.falsely();
            x.image();
            x.forget();
            x.log(other == 0 ? 1 - ship : ship, other == 1 ? (hour + 12) % 240 : hour, other == 2 ? 1 - light : light, was != (other == 3));
            x.restore();
            due.is("the entry", x.falsely(), wrong);
            x.fill(0, 0);
            x.fill(1, 0);
            due.is("without oil it is so only if it was not seen", x.falsely(), was ? 1 : 0);
        }
    }

    private void restore() {
        due.promise(42, "They are as the image again: true.");
        SailingLights x = due.of(COAST);
        x.image();
        String state = state(x);
        for (int i = 0; i < 3; i++) {
            x.push(0, 1 + i);
            x.obey(1);
            due.is("restore() " + i, x.restore(), true);
            due.is("as the image", state(x).equals(state), true);
            due.is("where it goes from there", x.where(0, 2), 2);
        }
        x.fill(0, 201);
        x.restore();
        due.is("STATUS is none of it", x.count(11), 1);
        x.feed(0, 0, 0, 0, 0);
        x.restore();
        due.is("nor is the tape", x.count(9), 20);
        due.promise(42, "False: there is none.");
        SailingLights none = due.of(COAST);
        none.fill(0, 5);
        due.is("no image", none.restore(), false);
        due.is("it changes nothing", none.light(0, 2), 5);
        due.is("nor any act", none.count(7), 1);
        due.is("nor is it refused", none.count(11), 0);
        none.image();
        Due.read(none, "x");
        due.is("behind a fault", none.restore(), true);
        Due.read(none, COAST);
        due.is("behind another coast", none.restore(), false);
    }

    private void manyCalls() {
        due.promise(18);
        SailingLights x = due.of(COAST);
        for (int i = 0; i < 400; i++) {
            x.want(0, 13);
        }
        due.is("many were refused", x.count(11), 400);
        due.is("all else stays", x.ship(0, 1), 3);
    }
}
