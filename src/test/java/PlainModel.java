import java.util.ArrayList;
import java.util.List;
import java.util.NoSuchElementException;

/**
 * The document told a second time, as plainly as it can be, by other ways than the class: columns and rows
 * in place of cells, laws read anew for each value, all matchings and all colourings tried, nothing kept between calls.
 */
final class PlainModel {
    static final class Light {
        int x, y, reach, oil, rank;
        String way, sign;

        Light copy() {
            Light l = new Light();
            l.x = x;
            l.y = y;
            l.reach = reach;
            l.oil = oil;
            l.rank = rank;
            l.way = way;
            l.sign = sign;
            return l;
        }
    }

    static final class Ship {
        int x, y, want;

        Ship copy() {
            Ship s = new Ship();
            s.x = x;
            s.y = y;
            s.want = want;
            return s;
        }
    }

    /** The whole coast; copied for acts, images and what-ifs. */
    static final class Sea {
        int w = 8, h = 8, force = -1;
        List<int[]> capes = new ArrayList<>();
        List<Light> lights = new ArrayList<>();
        List<Ship> ships = new ArrayList<>();
        List<Integer> fogs = new ArrayList<>();
        List<List<String>> laws = new ArrayList<>();

        Sea copy() {
            Sea s = new Sea();
            s.w = w;
            s.h = h;
            s.force = force;
            s.capes = capes;
            s.fogs = fogs;
            s.laws = laws;
            for (Light l : lights) {
                s.lights.add(l.copy());
            }
            for (Ship p : ships) {
                s.ships.add(p.copy());
            }
            return s;
        }

        boolean cape(int x, int y) {
            for (int[] c : capes) {
                if (c[0] == x && c[1] == y) {
                    return true;
                }
            }
            return false;
        }

        boolean open(int x, int y) {
            return x >= 0 && y >= 0 && x < w && y < h && !cape(x, y);
        }
    }

    static final class Fault extends RuntimeException {
        private static final long serialVersionUID = 1L;
        final int kind, place;

        Fault(int kind, int place) {
            this.kind = kind;
            this.place = place;
        }
    }

    Sea sea = new Sea();
    private final StringBuilder tape = new StringBuilder();
    private int place = -1;
    private final int[] status = new int[3];
    private List<Sea> before = new ArrayList<>();
    private List<Object[]> entries = new ArrayList<>();
    private Sea keptSea;
    private List<Sea> keptBefore;
    private List<Object[]> keptEntries;
    private int quarrelled;

    // ---- the text

    int feed(int... fours) {
        if (tape.length() > 680) {
            return -1;
        }
        for (int four : fours) {
            for (int i = 3; i >= 0; i--) {
                tape.append((char) (four >> 8 * i & 255));
            }
        }
        return tape.length();
    }

    int coast(int n) {
        if (n < 0 || n > tape.length()) {
            throw new IllegalArgumentException();
        }
        String text = tape.substring(0, n);
        tape.setLength(0);
        try {
            sea = new PlainReader(text).sea();
        } catch (Fault f) {
            place = f.place;
            status[0]++;
            return f.kind;
        }
        place = -1;
        before = new ArrayList<>();
        entries = new ArrayList<>();
        keptSea = null;
        return 0;
    }

    int fault() {
        return place;
    }

    // ---- what there is

    int count(int what) {
        int[] all = {sea.w, sea.h, sea.capes.size(), sea.lights.size(), sea.ships.size(), sea.laws.size(), sea.force,
            before.size(), entries.size(), tape.length(), status[0], status[1], status[2]};
        return pick(all, what);
    }

    int light(int light, int what) {
        Light l = lightAt(light);
        int bits = 0;
        for (int i = 0; i < l.sign.length(); i++) {
            bits += l.sign.charAt(i) == 'l' ? 1 << i : 0;
        }
        return pick(new int[] {l.y * sea.w + l.x, l.reach, l.oil, l.rank, l.way.length(), l.sign.length(), bits}, what);
    }

    int ship(int ship, int what) {
        Ship s = shipAt(ship);
        int[][][] ways = ways(sea);
        int unseen = -1;
        for (int night = 9; night >= 0; night--) {
            unseen = watchOf(sea, ways, ship, night) == 0 ? night : unseen;
        }
        StringBuilder row = new StringBuilder();
        for (int hour = 0; hour < 240; hour++) {
            if (hour % 24 >= 12) {
                row.append(seenBits(sea, ways, ship, hour) == 0 ? 'd' : ' ');
            }
        }
        int dark = 0;
        for (String part : row.toString().split(" ")) {
            dark = Math.max(dark, part.length());
        }
        return pick(new int[] {s.y * sea.w + s.x, s.want, unseen, dark}, what);
    }

    // ---- hours

    /** Where all are in each hour, as columns and rows. */
    private int[][][] ways(Sea at) {
        int many = at.lights.size();
        int[][][] all = new int[240][many][2];
        quarrelled = 0;
        int[][] now = new int[many][2];
        for (int i = 0; i < many; i++) {
            now[i][0] = at.lights.get(i).x;
            now[i][1] = at.lights.get(i).y;
        }
        for (int hour = 0; hour < 240; hour++) {
            for (int i = 0; i < many; i++) {
                all[hour][i] = now[i].clone();
            }
            if (hour < 239) {
                for (int i : order(at, hour)) {
                    move(at, now, i, hour);
                }
            }
        }
        return all;
    }

    private void move(Sea at, int[][] now, int i, int hour) {
        String way = at.lights.get(i).way;
        char step = way.charAt(hour % way.length());
        if (step == 'o') {
            return;
        }
        int x = now[i][0] + (step == 'e' ? 1 : step == 'w' ? -1 : 0);
        int y = now[i][1] + (step == 's' ? 1 : step == 'n' ? -1 : 0);
        if (!at.open(x, y)) {
            return;
        }
        for (int[] other : now) {
            if (other[0] == x && other[1] == y) {
                quarrelled++;
                return;
            }
        }
        now[i][0] = x;
        now[i][1] = y;
    }

    private List<Integer> order(Sea at, int hour) {
        List<Integer> row = new ArrayList<>();
        List<Integer> gives = new ArrayList<>();
        for (int i = 0; i < at.lights.size(); i++) {
            row.add(i);
            gives.add(at.force < 0 ? at.lights.get(i).rank : given(at, i, hour));
        }
        row.sort((a, b) -> {
            int c = Integer.compare(gives.get(b), gives.get(a));
            return c != 0 ? c : Integer.compare(a, b);
        });
        return row;
    }

    private static int given(Sea at, int light, int hour) {
        Light l = at.lights.get(light);
        return new PlainLaw(at.laws.get(at.force), word -> {
            switch (word) {
                case "rank": return l.rank;
                case "oil": return oil(l.oil, hour);
                case "light": return light;
                case "hour": return hour % 24;
                case "reach": return l.reach;
                default: return lit(l.oil, hour) ? 1 : 0;
            }
        }).value();
    }

    /** How many hours of nights there were ahead of each hour. */
    private static final int[] BURNING = new int[241];

    static {
        for (int t = 0; t < 240; t++) {
            BURNING[t + 1] = BURNING[t] + (t % 24 >= 12 ? 1 : 0);
        }
    }

    static int oil(int told, int hour) {
        return told > BURNING[hour] ? told - BURNING[hour] : 0;
    }

    static boolean lit(int told, int hour) {
        return hour % 24 >= 12 && oil(told, hour) > 0;
    }

    private static int fog(Sea at, int night) {
        return at.fogs.isEmpty() ? 0 : at.fogs.get(night % at.fogs.size());
    }

    /** Whether a burning light would be seen: all crossings of the line are gone along. */
    private static boolean inSight(Sea at, int sx, int sy, int[] light, int reach, int fog) {
        int dx = light[0] - sx;
        int dy = light[1] - sy;
        if (Math.max(Math.abs(dx), Math.abs(dy)) > reach - fog) {
            return false;
        }
        int parts = gcd(Math.abs(dx), Math.abs(dy));
        for (int i = 1; i < parts; i++) {
            if (at.cape(sx + dx / parts * i, sy + dy / parts * i)) {
                return false;
            }
        }
        return true;
    }

    private static int gcd(int a, int b) {
        return b == 0 ? a : gcd(b, a % b);
    }

    private static int seenBits(Sea at, int[][][] ways, int ship, int hour, int fog) {
        int bits = 0;
        Ship s = at.ships.get(ship);
        for (int i = 0; i < at.lights.size(); i++) {
            Light l = at.lights.get(i);
            if (lit(l.oil, hour) && inSight(at, s.x, s.y, ways[hour][i], l.reach, fog)) {
                bits |= 1 << i;
            }
        }
        return bits;
    }

    private static int seenBits(Sea at, int[][][] ways, int ship, int hour) {
        return seenBits(at, ways, ship, hour, fog(at, hour / 24));
    }

    private static int watchOf(Sea at, int[][][] ways, int ship, int night) {
        int hours = 0;
        for (int t = 24 * night; t < 24 * night + 24; t++) {
            hours += seenBits(at, ways, ship, t) != 0 ? 1 : 0;
        }
        return hours;
    }

    private int sum(Sea at) {
        int[][][] ways = ways(at);
        int sum = 0;
        for (int ship = 0; ship < at.ships.size(); ship++) {
            for (int night = 0; night < 10; night++) {
                sum += watchOf(at, ways, ship, night);
            }
        }
        return sum;
    }

    int where(int light, int hour) {
        lightAt(light);
        hourAt(hour);
        int[] at = ways(sea)[hour][light];
        return at[1] * sea.w + at[0];
    }

    int lamp(int light, int hour, int what) {
        Light l = lightAt(light);
        hourAt(hour);
        return pick(new int[] {oil(l.oil, hour), lit(l.oil, hour) ? 1 : 0}, what);
    }

    int seen(int ship, int hour) {
        shipAt(ship);
        hourAt(hour);
        return seenBits(sea, ways(sea), ship, hour);
    }

    int watch(int ship, int night) {
        shipAt(ship);
        nightAt(night);
        return watchOf(sea, ways(sea), ship, night);
    }

    int content(int night) {
        nightAt(night);
        int bits = 0;
        int[][][] ways = ways(sea);
        for (int ship = 0; ship < sea.ships.size(); ship++) {
            bits |= watchOf(sea, ways, ship, night) >= sea.ships.get(ship).want ? 1 << ship : 0;
        }
        return bits;
    }

    int met(int light, int other) {
        lightAt(light);
        lightAt(other);
        if (light == other) {
            throw new IllegalArgumentException();
        }
        int[][][] ways = ways(sea);
        for (int t = 0; t < 240; t++) {
            if (far(ways[t][light], ways[t][other]) <= 1) {
                return t;
            }
        }
        return -1;
    }

    private static int far(int[] a, int[] b) {
        return Math.max(Math.abs(a[0] - b[0]), Math.abs(a[1] - b[1]));
    }

    // ---- acts

    private Sea act() {
        before.add(sea);
        if (before.size() > 40) {
            before.remove(0);
        }
        sea = sea.copy();
        return sea;
    }

    private int refuse() {
        status[1]++;
        return -1;
    }

    int fill(int light, int oil) {
        int was = lightAt(light).oil;
        if (oil < 0 || oil > 200) {
            return refuse();
        }
        act().lights.get(light).oil = oil;
        return was;
    }

    private boolean canMoor(int ship, int cell) {
        if (cell < 0 || cell >= sea.w * sea.h || sea.cape(cell % sea.w, cell / sea.w)) {
            return false;
        }
        for (Ship s : sea.ships) {
            if (s != sea.ships.get(ship) && s.y * sea.w + s.x == cell) {
                return false;
            }
        }
        return true;
    }

    private static boolean canBegin(Sea at, int light, int x, int y) {
        if (!at.open(x, y)) {
            return false;
        }
        for (Light l : at.lights) {
            if (l != at.lights.get(light) && l.x == x && l.y == y) {
                return false;
            }
        }
        return true;
    }

    int moor(int ship, int cell) {
        Ship s = shipAt(ship);
        if (!canMoor(ship, cell)) {
            return refuse();
        }
        Ship now = act().ships.get(ship);
        now.x = cell % sea.w;
        now.y = cell / sea.w;
        return s.y * sea.w + s.x;
    }

    int push(int light, int cell) {
        Light l = lightAt(light);
        if (cell < 0 || !canBegin(sea, light, cell % sea.w, cell / sea.w)) {
            return refuse();
        }
        Light now = act().lights.get(light);
        now.x = cell % sea.w;
        now.y = cell / sea.w;
        return l.y * sea.w + l.x;
    }

    int obey(int law) {
        if (law < -1 || law >= sea.laws.size()) {
            refuse();
            return 0;
        }
        act().force = law;
        return 1;
    }

    int want(int ship, int want) {
        int was = shipAt(ship).want;
        if (want < 0 || want > 12) {
            return refuse();
        }
        act().ships.get(ship).want = want;
        return was;
    }

    int undo() {
        if (before.isEmpty()) {
            return -1;
        }
        sea = before.remove(before.size() - 1);
        return before.size();
    }

    // ---- lamps, signs, visits

    int lamps(int night) {
        nightAt(night);
        int due = content(night);
        int[][][] ways = ways(sea);
        int best = -1;
        for (int some = 0; some < 1 << sea.lights.size(); some++) {
            boolean enough = true;
            for (int ship = 0; ship < sea.ships.size(); ship++) {
                int hours = 0;
                for (int t = 24 * night; t < 24 * night + 24; t++) {
                    hours += (seenBits(sea, ways, ship, t) & some) != 0 ? 1 : 0;
                }
                enough &= (due >> ship & 1) == 0 || hours >= sea.ships.get(ship).want;
            }
            if (enough && (best < 0 || Integer.bitCount(some) < Integer.bitCount(best))) {
                best = some;
            }
        }
        return best;
    }

    private boolean[][] unlike(int night) {
        int many = sea.lights.size();
        boolean[][] must = new boolean[many][many];
        int[][][] ways = ways(sea);
        for (int ship = 0; ship < sea.ships.size(); ship++) {
            for (int t = 24 * night; t < 24 * night + 24; t++) {
                int bits = seenBits(sea, ways, ship, t);
                for (int a = 0; a < many; a++) {
                    for (int b = 0; b < many; b++) {
                        must[a][b] |= a != b && (bits >> a & 1) == 1 && (bits >> b & 1) == 1;
                    }
                }
            }
        }
        return must;
    }

    int signs(int night, int what) {
        nightAt(night);
        boolean[][] must = unlike(night);
        int many = must.length;
        int taken = 0;
        for (int a = 0; a < many; a++) {
            for (int b = 0; b < a; b++) {
                taken += must[a][b] && sea.lights.get(a).sign.equals(sea.lights.get(b).sign) ? 1 : 0;
            }
        }
        int fewest = many;
        int all = (int) Math.pow(many, many);
        for (int colours = 0; many > 0 && colours < all; colours++) {
            int[] of = new int[many];
            int left = colours;
            int used = 0;
            for (int i = 0; i < many; i++) {
                of[i] = left % many;
                left /= many;
                used |= 1 << of[i];
            }
            boolean fits = true;
            for (int a = 0; a < many; a++) {
                for (int b = 0; b < a; b++) {
                    fits &= !must[a][b] || of[a] != of[b];
                }
            }
            fewest = fits ? Math.min(fewest, Integer.bitCount(used)) : fewest;
        }
        return pick(new int[] {fewest, taken}, what);
    }

    int who(int row, int many) {
        if (many < 1 || many > 12 || row < 0 || row >= Math.pow(3, many)) {
            throw new IllegalArgumentException();
        }
        StringBuilder digits = new StringBuilder(Integer.toString(row, 3)).reverse();
        while (digits.length() < many) {
            digits.append('0');
        }
        String pattern = digits.toString().replace('0', 'k').replace('1', 'l').replace('2', '.');
        int bits = 0;
        for (int i = 0; i < sea.lights.size(); i++) {
            String on = sea.lights.get(i).sign.repeat(20);
            if (java.util.regex.Pattern.compile(pattern).matcher(on).find()) {
                bits |= 1 << i;
            }
        }
        return bits;
    }

    /** All stable matchings, as the ship of each light. */
    private List<int[]> stable(int hour) {
        int many = sea.lights.size();
        int ships = sea.ships.size();
        int[][] at = ways(sea)[hour];
        List<int[]> found = new ArrayList<>();
        int all = (int) Math.round(Math.pow(ships + 1, many));
        for (int n = 0; n < all; n++) {
            int[] of = new int[many];
            int left = n;
            int used = 0;
            boolean once = true;
            for (int i = 0; i < many; i++) {
                of[i] = left % (ships + 1) - 1;
                left /= ships + 1;
                if (of[i] >= 0) {
                    once &= (used >> of[i] & 1) == 0;
                    used |= 1 << of[i];
                }
            }
            if (once && isStable(at, of)) {
                found.add(of);
            }
        }
        return found;
    }

    private boolean isStable(int[][] at, int[] of) {
        for (int light = 0; light < of.length; light++) {
            for (int ship = 0; ship < sea.ships.size(); ship++) {
                int has = -1;
                for (int i = 0; i < of.length; i++) {
                    has = of[i] == ship ? i : has;
                }
                if (has != light && lightRather(at, light, ship, of[light]) && shipRather(at, ship, light, has)) {
                    return false;
                }
            }
        }
        return true;
    }

    private int shipFar(int[][] at, int light, int ship) {
        Ship s = sea.ships.get(ship);
        return far(at[light], new int[] {s.x, s.y});
    }

    private boolean lightRather(int[][] at, int light, int ship, int than) {
        return than < 0 || shipFar(at, light, ship) * 10 + ship < shipFar(at, light, than) * 10 + than;
    }

    private boolean shipRather(int[][] at, int ship, int light, int than) {
        return than < 0 || (sea.lights.get(light).reach - shipFar(at, light, ship)) * 10 - light
            > (sea.lights.get(than).reach - shipFar(at, than, ship)) * 10 - than;
    }

    int visits(int hour) {
        hourAt(hour);
        return stable(hour).size();
    }

    int visit(int light, int hour) {
        lightAt(light);
        hourAt(hour);
        int best = -1;
        int[][] at = ways(sea)[hour];
        for (int[] of : stable(hour)) {
            if (of[light] >= 0 && lightRather(at, light, of[light], best)) {
                best = of[light];
            }
        }
        return best;
    }

    // ---- laws, moorings

    private Sea under(int law) {
        if (law < -1 || law >= sea.laws.size()) {
            throw new NoSuchElementException();
        }
        Sea other = sea.copy();
        other.force = law;
        return other;
    }

    int compared(int law) {
        return sum(under(law));
    }

    int best() {
        int best = -1;
        for (int law = 0; law < sea.laws.size(); law++) {
            best = compared(law) > compared(best) ? law : best;
        }
        return best;
    }

    int mooring(int ship, int night, int what) {
        shipAt(ship);
        nightAt(night);
        int which = -1;
        int most = -1;
        int[][][] ways = ways(sea);
        for (int cell = 0; cell < sea.w * sea.h; cell++) {
            if (canMoor(ship, cell)) {
                Sea other = sea.copy();
                other.ships.get(ship).x = cell % sea.w;
                other.ships.get(ship).y = cell / sea.w;
                int hours = watchOf(other, ways, ship, night);
                if (hours > most) {
                    most = hours;
                    which = cell;
                }
            }
        }
        return pick(new int[] {which, most}, what);
    }

    // ---- the log

    int log(int ship, int hour, int light, boolean was) {
        shipAt(ship);
        hourAt(hour);
        lightAt(light);
        if (entries.size() == 8) {
            status[2]++;
            return -1;
        }
        entries.add(new Object[] {ship, hour, light, was});
        return entries.size();
    }

    void forget() {
        entries = new ArrayList<>();
    }

    private int wrong(Sea at) {
        int[][][] ways = ways(at);
        int wrong = 0;
        for (Object[] e : entries) {
            boolean is = (seenBits(at, ways, (Integer) e[0], (Integer) e[1]) >> (Integer) e[2] & 1) == 1;
            wrong += is != (Boolean) e[3] ? 1 : 0;
        }
        return wrong;
    }

    int falsely() {
        return wrong(sea);
    }

    private Sea begunAt(int light, int cell) {
        Sea other = sea.copy();
        other.lights.get(light).x = cell % sea.w;
        other.lights.get(light).y = cell / sea.w;
        return other;
    }

    int begun(int light, int what) {
        lightAt(light);
        int many = 0;
        int least = -1;
        int fewest = 99;
        for (int cell = 0; cell < sea.w * sea.h; cell++) {
            if (canBegin(sea, light, cell % sea.w, cell / sea.w)) {
                int wrong = wrong(begunAt(light, cell));
                fewest = Math.min(fewest, wrong);
                if (wrong == 0) {
                    many++;
                    least = least < 0 ? cell : least;
                }
            }
        }
        return pick(new int[] {many, least, fewest}, what);
    }

    // ---- games, years

    int game(int light, int other, int night, int much, int what) {
        lightAt(light);
        lightAt(other);
        nightAt(night);
        pick(new int[2], what);
        if (light == other || much < 0 || much > 99) {
            throw new IllegalArgumentException();
        }
        int[][][] ways = ways(sea);
        int many = 0;
        int first = -1;
        for (int a = 0; a < 2; a++) {
            for (int b = 0; b < 2; b++) {
                int mine = gain(ways, light, a, other, b, night, much);
                int its = gain(ways, other, b, light, a, night, much);
                if (mine >= gain(ways, light, 1 - a, other, b, night, much)
                        && its >= gain(ways, other, 1 - b, light, a, night, much)) {
                    many++;
                    first = first < 0 ? 10 * a + b : first;
                }
            }
        }
        return what == 0 ? many : first;
    }

    private int gain(int[][][] ways, int light, int burns, int other, int otherBurns, int night, int much) {
        int gain = -much * burns;
        for (int ship = 0; ship < sea.ships.size(); ship++) {
            Ship s = sea.ships.get(ship);
            boolean once = false;
            for (int t = 24 * night + 12; t < 24 * night + 24; t++) {
                int bits = seenBits(sea, ways, ship, t) & ~(1 << light) & ~(1 << other);
                if (burns == 1 && inSight(sea, s.x, s.y, ways[t][light], sea.lights.get(light).reach, fog(sea, night))) {
                    bits |= 1 << light;
                }
                if (otherBurns == 1
                        && inSight(sea, s.x, s.y, ways[t][other], sea.lights.get(other).reach, fog(sea, night))) {
                    bits |= 1 << other;
                }
                once |= bits == 1 << light;
            }
            gain += once ? 5 : 0;
        }
        return gain;
    }

    int years(int seed, int n, int what) {
        pick(new int[3], what);
        if (n < 0 || n > 40) {
            throw new IllegalArgumentException();
        }
        Sea at = sea.copy();
        long now = seed;
        int all = 0;
        int fewest = n == 0 ? 0 : 99;
        int full = 0;
        for (int i = 0; i < n; i++) {
            if (!at.lights.isEmpty()) {
                now = after(now);
                int light = drawn(now, at.lights.size());
                now = after(now);
                int way = drawn(now, 4);
                Light l = at.lights.get(light);
                int x = l.x + new int[] {0, 1, 0, -1}[way];
                int y = l.y + new int[] {-1, 0, 1, 0}[way];
                if (canBegin(at, light, x, y)) {
                    l.x = x;
                    l.y = y;
                }
            }
            now = after(now);
            int fog = drawn(now, 10);
            int[][][] ways = ways(at);
            int contented = 0;
            for (int ship = 0; ship < at.ships.size(); ship++) {
                int hours = 0;
                for (int t = 0; t < 24; t++) {
                    hours += seenBits(at, ways, ship, t, fog) != 0 ? 1 : 0;
                }
                contented += hours >= at.ships.get(ship).want ? 1 : 0;
            }
            all += contented;
            fewest = Math.min(fewest, contented);
            full += contented == at.ships.size() ? 1 : 0;
        }
        return pick(new int[] {all, fewest, full}, what);
    }

    private static long after(long seed) {
        return seed * 1103515245L + 12345L & 0xffffffffL;
    }

    private static int drawn(long seed, int n) {
        return (int) (seed / 65536 % 32768 % n);
    }

    // ---- fathers, journeys, better starts

    int father(int ship, int hour) {
        int bits = seen(ship, hour);
        int[][] at = ways(sea)[hour];
        int best = -1;
        for (int i = 0; i < sea.lights.size(); i++) {
            if ((bits >> i & 1) == 1 && (best < 0 || shipFar(at, i, ship) < shipFar(at, best, ship))) {
                best = i;
            }
        }
        return best;
    }

    int journey(int light, int what) {
        Light l = lightAt(light);
        int[][][] ways = ways(sea);
        int[] all = new int[3];
        for (int t = 0; t < 240; t++) {
            if (t < 239) {
                boolean stays = far(ways[t][light], ways[t + 1][light]) == 0;
                all[0] += stays ? 0 : 1;
                all[1] += stays && l.way.charAt(t % l.way.length()) != 'o' ? 1 : 0;
            }
            for (int ship = 0; ship < sea.ships.size(); ship++) {
                all[2] += seenBits(sea, ways, ship, t) >> light & 1;
            }
        }
        return pick(all, what);
    }

    int brightest() {
        int best = -1;
        for (int i = 0; i < sea.lights.size(); i++) {
            best = best < 0 || journey(i, 2) > journey(best, 2) ? i : best;
        }
        return best;
    }

    int sparing(int light) {
        lightAt(light);
        int due = sum(sea);
        for (int oil = 0; oil <= 200; oil++) {
            Sea other = sea.copy();
            other.lights.get(light).oil = oil;
            if (sum(other) >= due) {
                return oil;
            }
        }
        throw new AssertionError("its own oil must do");
    }

    int start(int light, int what) {
        lightAt(light);
        int which = -1;
        int most = -1;
        for (int cell = 0; cell < sea.w * sea.h; cell++) {
            if (canBegin(sea, light, cell % sea.w, cell / sea.w)) {
                int sum = sum(begunAt(light, cell));
                if (sum > most) {
                    most = sum;
                    which = cell;
                }
            }
        }
        return pick(new int[] {which, most}, what);
    }

    int alone(int night) {
        nightAt(night);
        int[][][] ways = ways(sea);
        int alone = 0;
        for (int ship = 0; ship < sea.ships.size(); ship++) {
            int bits = 0;
            for (int t = 24 * night; t < 24 * night + 24; t++) {
                bits |= seenBits(sea, ways, ship, t);
            }
            alone += Integer.bitCount(bits) == 1 ? 1 : 0;
        }
        return alone;
    }

    int quarrels(int law) {
        ways(under(law));
        return quarrelled;
    }

    // ---- the image

    void image() {
        keptSea = sea;
        keptBefore = new ArrayList<>(before);
        keptEntries = new ArrayList<>(entries);
    }

    int restore() {
        if (keptSea == null) {
            return 0;
        }
        sea = keptSea;
        before = new ArrayList<>(keptBefore);
        entries = new ArrayList<>(keptEntries);
        return 1;
    }

    // ---- refusals

    private static int pick(int[] all, int what) {
        if (what < 0 || what >= all.length) {
            throw new NoSuchElementException();
        }
        return all[what];
    }

    private Light lightAt(int light) {
        if (light < 0 || light >= sea.lights.size()) {
            throw new NoSuchElementException();
        }
        return sea.lights.get(light);
    }

    private Ship shipAt(int ship) {
        if (ship < 0 || ship >= sea.ships.size()) {
            throw new NoSuchElementException();
        }
        return sea.ships.get(ship);
    }

    private static void hourAt(int hour) {
        if (hour < 0 || hour > 239) {
            throw new NoSuchElementException();
        }
    }

    private static void nightAt(int night) {
        if (night < 0 || night > 9) {
            throw new NoSuchElementException();
        }
    }
}
