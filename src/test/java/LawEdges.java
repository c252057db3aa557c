/** Every boundary case of what laws give and of how lights go by it, each under the words that name it. */
final class LawEdges {
    private final Due due;

    private LawEdges(Due due) {
        this.due = due;
    }

    static void run(Due due) {
        LawEdges edges = new LawEdges(due);
        edges.grammar();
        edges.fromTheLeft();
        edges.wraps();
        edges.divisions();
        edges.truths();
        edges.rankLightReach();
        edges.oil();
        edges.hour();
        edges.lit();
        edges.hours();
        edges.beginning();
        edges.steps();
        edges.lawInForce();
        edges.mostFirst();
        edges.barred();
        edges.otherLights();
        edges.shipsInNobodysWay();
    }

    /** Light 1 stands in light 0's way and goes ahead of it, if the law gives it more than light 0, which has 0. */
    private void holds(String test, boolean want) {
        SailingLights x = due.of("light 0 0 3 20 2 e l;light 1 0 4 30 6 e l;yields light*(" + test + ");");
        due.is(test, x.where(0, 1), want ? 1 : 0);
    }

    /** Which of two lights at both ends of a sea of three cells gets the cell between them in this hour. */
    private int first(String law, int oil, int otherOil, int hour) {
        char[] way = "oooooooooooo".toCharArray();
        char[] otherWay = "oooooooooooo".toCharArray();
        way[hour % 12] = 'e';
        way[(hour + 1) % 12] = 'w';
        otherWay[hour % 12] = 'w';
        otherWay[(hour + 1) % 12] = 'e';
        SailingLights x = due.of("sea 3 1;light 0 0 1 " + oil + " 0 " + new String(way) + " l;light 2 0 1 " + otherOil + " 0 "
            + new String(otherWay) + " l;yields " + law + ";");
        due.is("light 0 is at home", x.where(0, hour), 0);
        due.is("light 1 is at home", x.where(1, hour), 2);
        return x.where(0, hour + 1) == 1 ? 0 : 1;
    }

    private void grammar() {
        due.promise(8, "EXPR: AND ('or' AND)*. AND: NOT ('and' NOT)*. NOT: 'not' NOT | SUM [('<' | '=') SUM]. "
            + "SUM: PRODUCT (('+' | '-') PRODUCT)*. PRODUCT: PART (('*' | '/') PART)*. PART: NUMBER | VALUE | '(' EXPR ')'.");
        holds("1 or 1 and 0", true);
        holds("(1 or 1) and 0", false);
        holds("0 and 0 or 1", true);
        holds("0 and (0 or 1)", false);
        holds("not 0 and 0", false);
        holds("not (0 and 0)", true);
        holds("not 1 or 1", true);
        holds("not (1 or 1)", false);
        holds("not 1=2", true);
        holds("(not 1)=2", false);
        holds("not 0<0", true);
        holds("(not 0)<0", false);
        holds("1+1<2+1", true);
        holds("1+(1<2)+1", true);
        holds("2+3*4=14", true);
        holds("(2+3)*4=20", true);
        holds("20-8/4=18", true);
        holds("1<2 and 2<3", true);
        holds("1<2 and 3<2", false);
        holds("3<2 or 1=1", true);
        holds("((((1))))", true);
        holds("not not not not not not 0", false);
        holds("not not not not not 0", true);
    }

    private void fromTheLeft() {
        due.promise(8, "From the left;");
        holds("10-3-2=5", true);
        holds("10-(3-2)=9", true);
        holds("10-3+2=9", true);
        holds("100/10/2=5", true);
        holds("100/(10/2)=20", true);
        holds("100/10*2=20", true);
        holds("7*3/2=10", true);
        holds("3/2*7=7", true);
        holds("2-1-1-1-1=0-2", true);
    }

    private void wraps() {
        due.promise(8, "ints that wrap,");
        holds("4096*4096*256=0", true);
        holds("4096*4096*128<0", true);
        holds("0<4096*4096*128-1", true);
        holds("4096*4096*128-1+1<0", true);
        holds("0-4096*4096*128=4096*4096*128", true);
        holds("0-4096*4096*128-1=4096*4096*128-1", true);
        holds("9999*9999*9999<0", 9999 * 9999 * 9999 < 0);
        holds("9999*9999*9999*9999<0", 9999 * 9999 * 9999 * 9999 < 0);
    }

    private void divisions() {
        due.promise(8, "/ cut down to 0, by 0 gives 0;");
        holds("7/2=3", true);
        holds("(0-7)/2=0-3", true);
        holds("7/(0-2)=0-3", true);
        holds("(0-7)/(0-2)=3", true);
        holds("1/2=0", true);
        holds("(0-1)/2=0", true);
        holds("0/5=0", true);
        holds("5/0=0", true);
        holds("(0-5)/0=0", true);
        holds("0/0=0", true);
        holds("5/0+1=1", true);
        holds("5/(rank-rank)=0", true);
        holds("4096*4096*128/(0-1)=4096*4096*128", true);
        holds("4096*4096*128/0=0", true);
    }

    private void truths() {
        due.promise(8, "tests, not, and, or are 1 or 0 (what isn't 0 holds).");
        holds("(3<5)=1", true);
        holds("(5<5)=0", true);
        holds("(5<3)=0", true);
        holds("(5=5)=1", true);
        holds("(5=4)=0", true);
        holds("(0-1<0)=1", true);
        holds("(not 0)=1", true);
        holds("(not 7)=0", true);
        holds("(not (0-1))=0", true);
        holds("(2 and 4)=1", true);
        holds("(2 and 0)=0", true);
        holds("(0 and 2)=0", true);
        holds("(0 or 0)=0", true);
        holds("(0 or 5)=1", true);
        holds("(5 or 0)=1", true);
        holds("(5 or 7)=1", true);
        holds("((0-3) and (0-4))=1", true);
        holds("(4096*4096*256 or 0)=0", true);
        holds("5 and 7 and 0-1", true);
        due.is("a law of a not alone", first("not light", 0, 0, 0), 0);
        due.is("a law of two nots alone", first("not not light", 0, 0, 0), 1);
        due.is("a law of six nots alone", first("not not not not not not (light*9)", 0, 0, 0), 1);
        due.is("a law of a value alone", first("light", 0, 0, 0), 1);
        due.is("a law of a number alone", first("9999", 0, 0, 0), 0);
    }

    private void rankLightReach() {
        due.promise(8, "VALUES of a LIGHT: 'rank',");
        holds("rank=6", true);
        due.promise(8, "'light' (its number),");
        holds("light=1", true);
        SailingLights x = due.of("light 0 0 1 0 0 e l;light 1 0 1 0 0 e l;yields light=0;");
        due.is("light 0 has number 0", x.where(0, 1), 0);
        due.promise(8, "'reach',");
        holds("reach=4", true);
        due.is("reach 12", due.of("light 0 0 1 0 0 e l;light 1 0 12 0 0 e l;yields reach=12;").where(0, 1), 1);
        due.is("reach 1", due.of("light 0 0 2 0 0 e l;light 1 0 1 0 0 e l;yields reach=1;").where(0, 1), 1);
    }

    private void oil() {
        due.promise(8, "'oil' (as told, less what it burnt),");
        holds("oil=30", true);
        String law = "light*(oil=%d)";
        due.is("hour 11: as told", first(String.format(law, 30), 0, 30, 11), 1);
        due.is("hour 12: as told, ahead of burning", first(String.format(law, 30), 0, 30, 12), 1);
        due.is("hour 13: one less", first(String.format(law, 29), 0, 30, 13), 1);
        due.is("hour 23: eleven less", first(String.format(law, 19), 0, 30, 23), 1);
        due.is("hour 24: twelve less", first(String.format(law, 18), 0, 30, 24), 1);
        due.is("hour 35: twelve less", first(String.format(law, 18), 0, 30, 35), 1);
        due.is("hour 238: as much as there was", first(String.format(law, 82), 0, 200, 238), 1);
        due.is("hour 238: never below 0", first(String.format(law, 0), 0, 30, 238), 1);
        due.is("all of it burnt", first(String.format(law, 0), 0, 1, 13), 1);
        due.is("its last", first(String.format(law, 1), 0, 1, 12), 1);
    }

    private void hour() {
        due.promise(8, "'hour' (of the day, 0 to 23),");
        String law = "light*(hour=%d)";
        int[][] hours = {{0, 0}, {1, 1}, {11, 11}, {12, 12}, {22, 22}, {23, 23}, {24, 0}, {47, 23}, {48, 0}, {216, 0}, {238, 22}};
        for (int[] hour : hours) {
            due.is("hour " + hour[0], first(String.format(law, hour[1]), 0, 0, hour[0]), 1);
            due.is("hour " + hour[0] + ": not the next", first(String.format(law, hour[1] + 1), 0, 0, hour[0]), 0);
        }
    }

    private void lit() {
        due.promise(8, "'lit' (1, if it is LIT now, else 0).");
        String law = "light*(lit=1)";
        due.is("hour 11", first(law, 0, 200, 11), 0);
        due.is("hour 12", first(law, 0, 200, 12), 1);
        due.is("hour 23", first(law, 0, 200, 23), 1);
        due.is("hour 24", first(law, 0, 200, 24), 0);
        due.is("without oil", first(law, 200, 0, 12), 0);
        due.is("its last oil", first(law, 0, 1, 12), 1);
        due.is("behind its last oil", first(law, 0, 1, 13), 0);
        due.is("hour 238", first(law, 0, 119, 238), 1);
        due.is("hour 238, burnt", first(law, 0, 118, 238), 0);
        due.is("0 by day", first("light*(lit=0)", 0, 200, 11), 1);
    }

    private void hours() {
        due.promise(8, "HOURS are 0 to 239;");
        SailingLights x = due.of("sea 3 1;light 0 0 9 200 0 ew l;ship 2 0 0;");
        due.is("hour 0", x.where(0, 0), 0);
        due.is("hour 239", x.where(0, 239), 1);
        due.missing("hour -1", () -> x.where(0, -1));
        due.missing("hour 240", () -> x.where(0, 240));
        due.promise(10, "the hour of the day is HOUR MOD 24, NIGHT is HOUR by 24, cut down (0 to 9).");
        SailingLights fog = due.of("light 0 0 7 200 0 o l;ship 7 0 0;fog 0 1;");
        for (int night = 0; night < 10; night++) {
            int want = night % 2 == 0 ? 1 : 0;
            due.is("day " + night, fog.seen(0, 24 * night + 11), 0);
            due.is("dusk " + night, fog.seen(0, 24 * night + 12), want);
            due.is("midnight " + night, fog.seen(0, 24 * night + 23), want);
        }
    }

    private void beginning() {
        due.promise(8, "In HOUR 0 all LIGHTS are where they begin.");
        SailingLights x = due.of("sea 12 12;light 0 0 1 0 0 e l;light 11 11 1 0 0 w l;light 5 5 1 0 0 n l;");
        due.is("the first cell", x.where(0, 0), 0);
        due.is("the last cell", x.where(1, 0), 143);
        due.is("between", x.where(2, 0), 65);
        x.push(0, 143 - 12);
        due.is("pushed", x.where(0, 0), 131);
    }

    private void steps() {
        due.promise(8, "From one HOUR t to the next one each goes the (t MOD how many)-th step of its WAY, one after the other,");
        SailingLights one = due.of("sea 12 1;light 0 0 1 0 0 e l;");
        for (int hour = 0; hour < 240; hour++) {
            due.is("one step, hour " + hour, one.where(0, hour), Math.min(hour, 11));
        }
        SailingLights twelve = due.of("sea 2 1;light 0 0 1 0 0 eooooooooooo l;light 1 0 1 0 0 o l;");
        due.is("the way is barred", twelve.where(0, 239), 0);
        SailingLights turn = due.of("sea 12 1;light 0 0 1 0 0 eooooooooooo l;");
        for (int hour = 0; hour < 240; hour++) {
            due.is("twelve steps, hour " + hour, turn.where(0, hour), Math.min((hour + 11) / 12, 11));
        }
        SailingLights last = due.of("sea 12 1;light 0 0 1 0 0 oooooooooooe l;");
        due.is("the twelfth step", last.where(0, 11), 0);
        due.is("behind the twelfth", last.where(0, 12), 1);
        due.is("the way begins again", last.where(0, 23), 1);
        due.is("and ends again", last.where(0, 24), 2);
        SailingLights three = due.of("sea 4 1;light 0 0 1 0 0 eew l;");
        int[] want = {0, 1, 2, 1, 2, 3, 2, 3, 3, 2};
        for (int hour = 0; hour < want.length; hour++) {
            due.is("three steps, hour " + hour, three.where(0, hour), want[hour]);
        }
        SailingLights row = due.of("sea 4 1;light 0 0 1 0 0 e l;light 1 0 1 0 1 e l;light 2 0 1 0 2 e l;");
        for (int light = 0; light < 3; light++) {
            due.is("one after the other, the front one first", row.where(light, 1), light + 1);
        }
        SailingLights back = due.of("sea 4 1;light 0 0 1 0 2 e l;light 1 0 1 0 1 e l;light 2 0 1 0 0 e l;");
        int[] stays = {0, 1, 3};
        for (int light = 0; light < 3; light++) {
            due.is("the front one last", back.where(light, 1), stays[light]);
        }
    }

    private void lawInForce() {
        due.promise(8, "by what the LAW in force gives (LAW 0 at first; without one RANK) in HOUR t,");
        String two = "light 0 0 1 0 3 e l;light 1 0 1 0 7 e l;";
        due.is("without a law by rank", due.of(two).where(0, 1), 1);
        SailingLights x = due.of(two + "yields 0-rank;yields rank;");
        due.is("law 0 at first", x.where(0, 1), 0);
        x.obey(1);
        due.is("law 1", x.where(0, 1), 1);
        x.obey(0);
        due.is("law 0", x.where(0, 1), 0);
        x.obey(-1);
        due.is("none: by rank", x.where(0, 1), 1);
        due.is("a law that gives all the same", due.of(two + "yields 5;").where(0, 1), 0);
        due.is("in hour 0, not in hour 1", first("light*(hour=0)", 0, 0, 0), 1);
        due.is("in hour 0, not in hour 1", first("light*(hour=1)", 0, 0, 0), 0);
    }

    private void mostFirst() {
        due.promise(8, "the most first (of like ones the least):");
        due.is("like ones", first("7", 0, 0, 0), 0);
        due.is("one more", first("7+light", 0, 0, 0), 1);
        due.is("one less", first("7-light", 0, 0, 0), 0);
        due.is("below 0 is less than 0", first("0-1+light", 0, 0, 0), 1);
        due.is("0 is more than below 0", first("0-light", 0, 0, 0), 0);
        due.is("the most of all ints", first("4096*4096*128-light", 0, 0, 0), 1);
        due.is("the least of all ints", first("4096*4096*128*light", 0, 0, 0), 0);
        String five = "sea 5 2;light 0 0 1 0 %d s l;light 1 0 1 0 %d w l;light 2 0 1 0 %d w l;light 3 0 1 0 %d w l;"
            + "light 4 0 1 0 %d w l;";
        SailingLights like = due.of(String.format(five, 4, 4, 4, 4, 4));
        int[] all = {5, 0, 1, 2, 3};
        for (int light = 0; light < 5; light++) {
            due.is("five like ones, light " + light, like.where(light, 1), all[light]);
        }
        SailingLights most = due.of(String.format(five, 1, 2, 3, 4, 5));
        int[] none = {5, 1, 2, 3, 4};
        for (int light = 0; light < 5; light++) {
            due.is("five, the last one first, light " + light, most.where(light, 1), none[light]);
        }
        SailingLights pairs = due.of(String.format(five, 9, 1, 1, 9, 1));
        int[] some = {5, 0, 1, 3, 4};
        for (int light = 0; light < 5; light++) {
            due.is("two that are most, light " + light, pairs.where(light, 1), some[light]);
        }
    }

    private void barred() {
        due.promise(8, "not off THE SEA, not to a CAPE,");
        String[] ways = {"n", "e", "s", "w"};
        int[][] to = {{0, 1, 3, 0}, {1, 2, 4, 0}, {2, 2, 5, 1}, {0, 4, 6, 3}, {1, 5, 7, 3}, {2, 5, 8, 4}, {3, 7, 6, 6}, {4, 8, 7, 6},
            {5, 8, 8, 7}};
        for (int cell = 0; cell < 9; cell++) {
            for (int way = 0; way < 4; way++) {
                SailingLights x = due.of("sea 3 3;light " + cell % 3 + " " + cell / 3 + " 1 0 0 " + ways[way] + " l;");
                due.is("cell " + cell + " " + ways[way], x.where(0, 1), to[cell][way]);
            }
        }
        SailingLights one = due.of("sea 1 1;light 0 0 1 0 0 nesw l;");
        due.is("one cell", one.where(0, 239), 0);
        String capes = "sea 3 3;cape 1 0;cape 2 1;cape 1 2;cape 0 1;light 1 1 1 0 0 ";
        for (String way : ways) {
            due.is("a cape " + way, due.of(capes + way + " l;").where(0, 1), 4);
        }
        due.is("through between", due.of("sea 3 3;cape 1 0;cape 0 1;light 1 1 1 0 0 nwe l;").where(0, 3), 5);
    }

    private void otherLights() {
        due.promise(8, "not to a CELL in which another LIGHT is as it goes; else it stays.");
        SailingLights face = due.of("light 0 0 1 0 0 e l;light 1 0 1 0 9 w l;");
        due.is("face to face 0", face.where(0, 239), 0);
        due.is("face to face 1", face.where(1, 239), 1);
        SailingLights left = due.of("light 0 0 1 0 0 e l;light 1 0 1 0 9 s l;");
        due.is("a cell that was left in the same hour", left.where(0, 1), 1);
        SailingLights comes = due.of("light 0 0 1 0 0 e l;light 1 1 1 0 9 n l;");
        due.is("a cell that another came to in the same hour", comes.where(0, 1), 0);
        SailingLights still = due.of("light 0 0 1 0 9 e l;light 1 0 1 0 0 s l;");
        due.is("a cell that is left too late", still.where(0, 1), 0);
        due.is("free in the next hour", still.where(0, 2), 1);
        SailingLights ring = due.of("sea 2 2;light 0 0 1 0 0 e l;light 1 0 1 0 0 s l;light 1 1 1 0 0 w l;light 0 1 1 0 0 n l;");
        for (int light = 0; light < 4; light++) {
            due.is("a full ring stays " + light, ring.where(light, 239), new int[] {0, 1, 3, 2}[light]);
        }
        SailingLights gap = due.of("sea 2 2;light 0 0 1 0 0 e l;light 1 0 1 0 0 s l;light 1 1 1 0 0 w l;");
        due.is("with a gap the last one goes", gap.where(2, 1), 2);
        due.is("the others went too soon", gap.where(0, 1) * 10 + gap.where(1, 1), 1);
    }

    private void shipsInNobodysWay() {
        due.promise(8, "SHIPS are in nobody's way.");
        SailingLights x = due.of("sea 3 1;light 0 0 1 200 0 e l;ship 0 0 0;ship 1 0 0;ship 2 0 0;");
        due.is("over a ship", x.where(0, 1), 1);
        due.is("onto a ship", x.where(0, 2), 2);
        due.is("and in its cell", x.seen(2, 12), 1);
        due.is("pushed onto a ship", x.push(0, 1), 0);
    }
}
