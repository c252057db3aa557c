import java.util.NoSuchElementException;

/**
 * Lighthouses that sail along a coast, ships that lie still, and what can be asked of them.
 * The words that DOC.md writes in capitals stand here in small letters.
 */
public final class SailingLights {
    public static final int NONE = -1;

    private static final int MOST_BYTES = 700;
    private static final int MOST_SIDE = 12;
    private static final int MOST_CELLS = 144;
    private static final int MOST_CAPES = 12;
    private static final int MOST_LIGHTS = 5;
    private static final int MOST_SHIPS = 8;
    private static final int MOST_FOGS = 8;
    private static final int MOST_LAWS = 3;
    private static final int MOST_STEPS = 12;
    private static final int MOST_FLASHES = 6;
    private static final int MOST_REACH = 12;
    private static final int MOST_OIL = 200;
    private static final int MOST_RANK = 9;
    private static final int MOST_WANT = 12;
    private static final int MOST_FOG = 9;
    private static final int MOST_ACTS = 40;
    private static final int MOST_ENTRIES = 8;
    private static final int MOST_SEEN_FLASHES = 12;
    private static final int MOST_LOSS = 99;
    private static final int MOST_YEARS = 40;

    private static final int SIDE_UNTOLD = 8;
    private static final int DAY = 24;
    private static final int DUSK = 12;
    private static final int NIGHTS = 10;
    private static final int HOURS = 240;
    private static final int STAY = 4;
    private static final int ALL_LIGHTS = 31;

    /** What a cape hides counts as farther than any reach. */
    private static final int HIDDEN = 99;

    private static final int ACT_OIL = 0;
    private static final int ACT_MOOR = 1;
    private static final int ACT_PUSH = 2;
    private static final int ACT_LAW = 3;
    private static final int ACT_WANT = 4;

    private final int[] tape = new int[MOST_BYTES];
    private int tapeLength = 0;
    private int faultPlace = NONE;
    private final int[] refused = new int[3];

    private Chart chart = new Chart();
    private Stand stand = new Stand();
    private final Reader reader = new Reader();
    private final Stand kept = new Stand();
    private boolean isKept = false;

    /** How far each ship sees to each cell, or HIDDEN: it hangs on capes and moorings alone. */
    private final int[] views = new int[MOST_SHIPS * MOST_CELLS];
    private final Turns turns = new Turns();
    private final Course course = new Course();
    private boolean settled = false;

    private final Stand guess = new Stand();
    private final Turns trialTurns = new Turns();
    private final Course trial = new Course();
    private final Matching matching = new Matching();
    private final Conflicts conflicts = new Conflicts();
    private int seed = 0;

    public SailingLights() {
    }

    // ---- the text

    public int feed(int a, int b, int c, int d, int e) {
        if (tapeLength + 20 > MOST_BYTES) {
            return NONE;
        }
        feedBytes(a);
        feedBytes(b);
        feedBytes(c);
        feedBytes(d);
        feedBytes(e);
        return tapeLength;
    }

    public int coast(int n) throws IllegalArgumentException {
        if (n < 0 || n > tapeLength) {
            throw new IllegalArgumentException("the tape has not so many bytes");
        }
        int found = reader.read(tape, n);
        tapeLength = 0;
        if (found != 0) {
            faultPlace = reader.place;
            refused[0]++;
            return found;
        }
        faultPlace = NONE;
        takeWhatWasRead();
        return 0;
    }

    public int fault() {
        return faultPlace;
    }

    // ---- what there is

    public int count(int what) throws NoSuchElementException {
        switch (what) {
            case 0: return chart.width;
            case 1: return chart.height;
            case 2: return chart.capes;
            case 3: return chart.lights;
            case 4: return chart.ships;
            case 5: return chart.laws.told;
            case 6: return stand.force;
            case 7: return stand.acts.held;
            case 8: return stand.logbook.held;
            case 9: return tapeLength;
            case 10: return refused[0];
            case 11: return refused[1];
            case 12: return refused[2];
            default: throw new NoSuchElementException("no such what");
        }
    }

    public int light(int light, int what) throws NoSuchElementException {
        needLight(light);
        switch (what) {
            case 0: return stand.begins[light];
            case 1: return chart.reach[light];
            case 2: return stand.oil[light];
            case 3: return chart.rank[light];
            case 4: return chart.steps[light];
            case 5: return chart.flashes[light];
            case 6: return chart.sign[light];
            default: throw new NoSuchElementException("no such what");
        }
    }

    public int ship(int ship, int what) throws NoSuchElementException {
        needShip(ship);
        needWhat(what, 4);
        if (what == 0) {
            return stand.moored[ship];
        }
        if (what == 1) {
            return stand.wants[ship];
        }
        settle();
        return what == 2 ? course.firstUnseen(ship) : course.longestDark(ship);
    }

    // ---- hour by hour, night by night

    public int where(int light, int hour) throws NoSuchElementException {
        needLight(light);
        needHour(hour);
        settle();
        return course.cellOf(light, hour);
    }

    public int lamp(int light, int hour, int what) throws NoSuchElementException {
        needLight(light);
        needHour(hour);
        needWhat(what, 2);
        if (what == 0) {
            return oilIn(stand.oil[light], hour);
        }
        return isLit(stand.oil[light], hour) ? 1 : 0;
    }

    public int seen(int ship, int hour) throws NoSuchElementException {
        needShip(ship);
        needHour(hour);
        settle();
        return course.sightsOf(ship, hour);
    }

    public int watch(int ship, int night) throws NoSuchElementException {
        needShip(ship);
        needNight(night);
        settle();
        return course.hoursBy(ship, night, ALL_LIGHTS);
    }

    public int content(int night) throws NoSuchElementException {
        needNight(night);
        settle();
        return course.contentBy(chart, stand, night, ALL_LIGHTS);
    }

    public int met(int light, int other) throws NoSuchElementException, IllegalArgumentException {
        needLight(light);
        needLight(other);
        needTwo(light, other);
        settle();
        for (int hour = 0; hour < HOURS; hour++) {
            if (chart.farBetween(course.cellOf(light, hour), course.cellOf(other, hour)) <= 1) {
                return hour;
            }
        }
        return NONE;
    }

    // ---- acts

    public int fill(int light, int oil) throws NoSuchElementException {
        needLight(light);
        if (oil < 0 || oil > MOST_OIL) {
            return refuseAct();
        }
        return act(ACT_OIL, light, oil);
    }

    public int moor(int ship, int cell) throws NoSuchElementException {
        needShip(ship);
        if (!canMoor(ship, cell)) {
            return refuseAct();
        }
        return act(ACT_MOOR, ship, cell);
    }

    public int push(int light, int cell) throws NoSuchElementException {
        needLight(light);
        if (!canBegin(stand, light, cell)) {
            return refuseAct();
        }
        return act(ACT_PUSH, light, cell);
    }

    public boolean obey(int law) {
        if (!isLawOrNone(law)) {
            refuseAct();
            return false;
        }
        act(ACT_LAW, 0, law);
        return true;
    }

    public int want(int ship, int want) throws NoSuchElementException {
        needShip(ship);
        if (want < 0 || want > MOST_WANT) {
            return refuseAct();
        }
        return act(ACT_WANT, ship, want);
    }

    public int undo() {
        if (stand.acts.held <= 0) {
            return NONE;
        }
        stand.undoLast();
        settled = false;
        return stand.acts.held;
    }

    // ---- lamps, signs, visits

    public int lamps(int night) throws NoSuchElementException {
        needNight(night);
        settle();
        int due = course.contentBy(chart, stand, night, ALL_LIGHTS);
        int all = (1 << chart.lights) - 1;
        int fewest = all;
        for (int some = 0; some < all; some++) {
            if (Integer.bitCount(some) < Integer.bitCount(fewest)
                    && (course.contentBy(chart, stand, night, some) & due) == due) {
                fewest = some;
            }
        }
        return fewest;
    }

    public int signs(int night, int what) throws NoSuchElementException {
        needNight(night);
        needWhat(what, 2);
        settle();
        conflicts.gather(chart, course, night);
        return what == 0 ? conflicts.fewestSigns(chart.lights) : conflicts.takenCouples(chart);
    }

    public int who(int row, int many) throws IllegalArgumentException {
        if (many < 1 || many > MOST_SEEN_FLASHES || row < 0) {
            throw new IllegalArgumentException("no such row of flashes");
        }
        int rows = 1;
        for (int i = 0; i < many; i++) {
            rows *= 3;
        }
        if (row >= rows) {
            throw new IllegalArgumentException("the row has more flashes");
        }
        int lights = 0;
        for (int light = 0; light < chart.lights; light++) {
            if (chart.mayFlash(light, row, many)) {
                lights |= 1 << light;
            }
        }
        return lights;
    }

    public int visits(int hour) throws NoSuchElementException {
        needHour(hour);
        settle();
        matching.rankAll(chart, stand, course, hour);
        return matching.stableOnes();
    }

    public int visit(int light, int hour) throws NoSuchElementException {
        needLight(light);
        needHour(hour);
        settle();
        matching.rankAll(chart, stand, course, hour);
        return matching.bestShipFor(light);
    }

    // ---- laws and moorings

    public int compared(int law) throws NoSuchElementException {
        needLawOrNone(law);
        settle();
        return sumByLaw(law);
    }

    public int best() {
        settle();
        int bestLaw = NONE;
        int most = sumByLaw(NONE);
        for (int law = 0; law < chart.laws.told; law++) {
            int sum = sumByLaw(law);
            if (sum > most) {
                most = sum;
                bestLaw = law;
            }
        }
        return bestLaw;
    }

    public int mooring(int ship, int night, int what) throws NoSuchElementException {
        needShip(ship);
        needNight(night);
        needWhat(what, 2);
        settle();
        int bestCell = NONE;
        int most = NONE;
        int cells = chart.cells();
        for (int cell = 0; cell < cells; cell++) {
            if (canMoor(ship, cell)) {
                int hours = hoursSeenFrom(cell, night);
                if (hours > most) {
                    most = hours;
                    bestCell = cell;
                }
            }
        }
        return what == 0 ? bestCell : most;
    }

    // ---- the log

    public int log(int ship, int hour, int light, boolean was) throws NoSuchElementException {
        needShip(ship);
        needHour(hour);
        needLight(light);
        if (stand.logbook.held >= MOST_ENTRIES) {
            refused[2]++;
            return NONE;
        }
        stand.logbook.enter(ship, hour, light, was);
        return stand.logbook.held;
    }

    public void forget() {
        stand.logbook.held = 0;
    }

    public int falsely() {
        settle();
        return stand.logbook.falseBy(course);
    }

    public int begun(int light, int what) throws NoSuchElementException {
        needLight(light);
        needWhat(what, 3);
        settle();
        guess.take(stand);
        int fitting = 0;
        int least = NONE;
        int leastFalse = MOST_ENTRIES;
        int cells = chart.cells();
        for (int cell = 0; cell < cells; cell++) {
            if (canBegin(stand, light, cell)) {
                sailFrom(light, cell);
                int wrong = stand.logbook.falseBy(trial);
                leastFalse = Math.min(leastFalse, wrong);
                if (wrong == 0) {
                    fitting++;
                    least = least == NONE ? cell : least;
                }
            }
        }
        if (what == 0) {
            return fitting;
        }
        return what == 1 ? least : leastFalse;
    }

    // ---- games and years

    public int game(int light, int other, int night, int much, int what)
            throws NoSuchElementException, IllegalArgumentException {
        needLight(light);
        needLight(other);
        needNight(night);
        needWhat(what, 2);
        needTwo(light, other);
        if (much < 0 || much > MOST_LOSS) {
            throw new IllegalArgumentException("no such loss");
        }
        settle();
        int resting = 0;
        int first = NONE;
        for (int couple = 0; couple < 4; couple++) {
            boolean burns = couple >= 2;
            boolean otherBurns = (couple & 1) == 1;
            if (wouldKeepChoice(light, burns, other, otherBurns, night, much)
                    && wouldKeepChoice(other, otherBurns, light, burns, night, much)) {
                resting++;
                if (first == NONE) {
                    first = (burns ? 10 : 0) + (otherBurns ? 1 : 0);
                }
            }
        }
        return what == 0 ? resting : first;
    }

    public int years(int seed, int n, int what) throws NoSuchElementException, IllegalArgumentException {
        needWhat(what, 3);
        if (n < 0 || n > MOST_YEARS) {
            throw new IllegalArgumentException("no such number of nights");
        }
        settle();
        guess.take(stand);
        this.seed = seed;
        int together = 0;
        int fewest = n == 0 ? 0 : chart.ships;
        int full = 0;
        for (int i = 0; i < n; i++) {
            storm();
            int contented = Integer.bitCount(nightInFog(draw(MOST_FOG + 1)));
            together += contented;
            fewest = Math.min(fewest, contented);
            full += contented == chart.ships ? 1 : 0;
        }
        if (what == 0) {
            return together;
        }
        return what == 1 ? fewest : full;
    }

    // ---- fathers, journeys, better starts

    public int father(int ship, int hour) throws NoSuchElementException {
        needShip(ship);
        needHour(hour);
        settle();
        int sights = course.sightsOf(ship, hour);
        int nearest = NONE;
        int least = HIDDEN;
        for (int light = 0; light < chart.lights; light++) {
            int far = chart.farBetween(stand.moored[ship], course.cellOf(light, hour));
            if ((sights >> light & 1) == 1 && far < least) {
                least = far;
                nearest = light;
            }
        }
        return nearest;
    }

    public int journey(int light, int what) throws NoSuchElementException {
        needLight(light);
        needWhat(what, 3);
        settle();
        if (what == 0) {
            return course.travelsOf(light);
        }
        return what == 1 ? course.stuckOf(chart, light) : course.showsOf(chart.ships, light);
    }

    public int brightest() {
        settle();
        int bright = NONE;
        int most = NONE;
        for (int light = 0; light < chart.lights; light++) {
            int shows = course.showsOf(chart.ships, light);
            if (shows > most) {
                most = shows;
                bright = light;
            }
        }
        return bright;
    }

    public int sparing(int light) throws NoSuchElementException {
        needLight(light);
        settle();
        int due = course.sumOfWatches(chart.ships);
        int told = stand.oil[light];
        guess.take(stand);
        trialTurns.plan(chart, stand, stand.force);
        for (int oil = 0; oil < told; oil++) {
            guess.oil[light] = oil;
            // The other lights' turns hang on their own oil alone.
            trialTurns.weigh(chart, light, oil, stand.force);
            trialTurns.arrange(chart.lights);
            trial.sail(chart, guess, trialTurns, HOURS);
            trial.look(chart, guess, views);
            if (trial.sumOfWatches(chart.ships) >= due) {
                return oil;
            }
        }
        return told;
    }

    public int start(int light, int what) throws NoSuchElementException {
        needLight(light);
        needWhat(what, 2);
        settle();
        guess.take(stand);
        int bestCell = NONE;
        int most = NONE;
        int cells = chart.cells();
        for (int cell = 0; cell < cells; cell++) {
            if (canBegin(stand, light, cell)) {
                sailFrom(light, cell);
                int sum = trial.sumOfWatches(chart.ships);
                if (sum > most) {
                    most = sum;
                    bestCell = cell;
                }
            }
        }
        return what == 0 ? bestCell : most;
    }

    public int alone(int night) throws NoSuchElementException {
        needNight(night);
        settle();
        int ships = 0;
        for (int ship = 0; ship < chart.ships; ship++) {
            if (Integer.bitCount(course.lightsIn(ship, night)) == 1) {
                ships++;
            }
        }
        return ships;
    }

    public int quarrels(int law) throws NoSuchElementException {
        needLawOrNone(law);
        trialTurns.plan(chart, stand, law);
        trial.sail(chart, stand, trialTurns, HOURS);
        return trial.hindered;
    }

    // ---- the image

    public void image() {
        kept.take(stand);
        isKept = true;
    }

    public boolean restore() {
        if (!isKept) {
            return false;
        }
        stand.take(kept);
        settled = false;
        return true;
    }

    // ---- refusals by exceptions

    private void needLight(int light) throws NoSuchElementException {
        if (light < 0 || light >= chart.lights) {
            throw new NoSuchElementException("no such light");
        }
    }

    private void needShip(int ship) throws NoSuchElementException {
        if (ship < 0 || ship >= chart.ships) {
            throw new NoSuchElementException("no such ship");
        }
    }

    private static void needHour(int hour) throws NoSuchElementException {
        if (hour < 0 || hour >= HOURS) {
            throw new NoSuchElementException("no such hour");
        }
    }

    private static void needNight(int night) throws NoSuchElementException {
        if (night < 0 || night >= NIGHTS) {
            throw new NoSuchElementException("no such night");
        }
    }

    private static void needWhat(int what, int many) throws NoSuchElementException {
        if (what < 0 || what >= many) {
            throw new NoSuchElementException("no such what");
        }
    }

    private void needLawOrNone(int law) throws NoSuchElementException {
        if (!isLawOrNone(law)) {
            throw new NoSuchElementException("no such law");
        }
    }

    private static void needTwo(int light, int other) throws IllegalArgumentException {
        if (light == other) {
            throw new IllegalArgumentException("both are one");
        }
    }

    // ---- help for the calls

    private void feedBytes(int four) {
        for (int shift = 24; shift >= 0 && tapeLength < MOST_BYTES; shift -= 8) {
            tape[tapeLength] = four >>> shift & 255;
            tapeLength++;
        }
    }

    /** The reader gets the old rows to write its next text into, so that no call makes new ones. */
    private void takeWhatWasRead() {
        Chart oldChart = chart;
        Stand oldStand = stand;
        chart = reader.chart;
        stand = reader.stand;
        reader.chart = oldChart;
        reader.stand = oldStand;
        isKept = false;
        settled = false;
    }

    /** All that is asked of the coast as it stands is told from one course, made anew after an act. */
    private void settle() {
        if (settled) {
            return;
        }
        measureViews();
        turns.plan(chart, stand, stand.force);
        course.sail(chart, stand, turns, HOURS);
        course.look(chart, stand, views);
        settled = true;
    }

    private void measureViews() {
        int cells = chart.cells();
        for (int ship = 0; ship < chart.ships; ship++) {
            for (int cell = 0; cell < cells; cell++) {
                views[ship * MOST_CELLS + cell] = chart.sight(stand.moored[ship], cell);
            }
        }
    }

    private int refuseAct() {
        refused[1]++;
        return NONE;
    }

    private int act(int kind, int which, int value) {
        int before = stand.change(kind, which, value);
        stand.acts.keep(kind, which, before);
        settled = false;
        return before;
    }

    private boolean isLawOrNone(int law) {
        return law >= NONE && law < chart.laws.told;
    }

    private boolean canMoor(int ship, int cell) {
        if (!chart.isOpen(cell)) {
            return false;
        }
        for (int other = 0; other < chart.ships; other++) {
            if (other != ship && stand.moored[other] == cell) {
                return false;
            }
        }
        return true;
    }

    private boolean canBegin(Stand at, int light, int cell) {
        if (!chart.isOpen(cell)) {
            return false;
        }
        for (int other = 0; other < chart.lights; other++) {
            if (other != light && at.begins[other] == cell) {
                return false;
            }
        }
        return true;
    }

    private int sumByLaw(int law) {
        trialTurns.plan(chart, stand, law);
        trial.sail(chart, stand, trialTurns, HOURS);
        trial.look(chart, stand, views);
        return trial.sumOfWatches(chart.ships);
    }

    private int hoursSeenFrom(int cell, int night) {
        int fog = chart.fogIn(night);
        int hours = 0;
        for (int hour = night * DAY + DUSK; hour < night * DAY + DAY; hour++) {
            if (isSomeSeenFrom(cell, hour, fog)) {
                hours++;
            }
        }
        return hours;
    }

    private boolean isSomeSeenFrom(int cell, int hour, int fog) {
        for (int light = 0; light < chart.lights; light++) {
            if (isLit(stand.oil[light], hour)
                    && chart.sight(cell, course.cellOf(light, hour)) <= chart.reach[light] - fog) {
                return true;
            }
        }
        return false;
    }

    /** As guess stands, but for one light; who yields to whom stays, as no law looks at cells. */
    private void sailFrom(int light, int cell) {
        guess.begins[light] = cell;
        trial.sail(chart, guess, turns, HOURS);
        trial.look(chart, guess, views);
    }

    private boolean wouldKeepChoice(int light, boolean burns, int other, boolean otherBurns, int night, int much) {
        int byThis = gain(light, burns, other, otherBurns, night) - (burns ? much : 0);
        int byThat = gain(light, !burns, other, otherBurns, night) - (burns ? 0 : much);
        return byThis >= byThat;
    }

    private int gain(int light, boolean burns, int other, boolean otherBurns, int night) {
        if (!burns) {
            return 0;
        }
        int ships = 0;
        for (int ship = 0; ship < chart.ships; ship++) {
            if (isOnceAlone(ship, light, other, otherBurns, night)) {
                ships++;
            }
        }
        return 5 * ships;
    }

    private boolean isOnceAlone(int ship, int light, int other, boolean otherBurns, int night) {
        int fog = chart.fogIn(night);
        int rest = ALL_LIGHTS & ~(1 << light) & ~(1 << other);
        for (int hour = night * DAY + DUSK; hour < night * DAY + DAY; hour++) {
            if (isInSight(ship, light, hour, fog)
                    && (course.sightsOf(ship, hour) & rest) == 0
                    && !(otherBurns && isInSight(ship, other, hour, fog))) {
                return true;
            }
        }
        return false;
    }

    /** Whether a light would be seen if it burnt. */
    private boolean isInSight(int ship, int light, int hour, int fog) {
        return views[ship * MOST_CELLS + course.cellOf(light, hour)] <= chart.reach[light] - fog;
    }

    private void storm() {
        if (chart.lights <= 0) {
            return;
        }
        int light = draw(chart.lights);
        int cell = chart.cellBehind(guess.begins[light], draw(4));
        if (canBegin(guess, light, cell)) {
            guess.begins[light] = cell;
        }
    }

    private int draw(int many) {
        seed = seed * 1103515245 + 12345;
        return remainder(seed >>> 16 & 32767, many);
    }

    private int nightInFog(int fog) {
        // Oil and law are as they stand, so the turns of hours 0 to 23 are too.
        trial.sail(chart, guess, turns, DAY);
        trial.lookInNight(chart, guess, views, 0, fog);
        return trial.contentBy(chart, guess, 0, ALL_LIGHTS);
    }

    private static int oilIn(int told, int hour) {
        int burnt = DUSK * (hour / DAY) + Math.max(0, hour % DAY - DUSK);
        return Math.max(0, told - burnt);
    }

    private static boolean isLit(int told, int hour) {
        return hour % DAY >= DUSK && oilIn(told, hour) > 0;
    }

    /** Guards a divisor: by none there is nothing. */
    private static int quotient(int number, int by) {
        return by == 0 ? 0 : number / by;
    }

    private static int remainder(int number, int by) {
        return by == 0 ? 0 : number % by;
    }

    /** What a coast tells and no act changes. */
    private static final class Chart {
        int width = SIDE_UNTOLD;
        int height = SIDE_UNTOLD;
        int capes = 0;
        int lights = 0;
        int ships = 0;
        int fogs = 0;
        final boolean[] isCape = new boolean[MOST_CELLS];
        final int[] capeX = new int[MOST_CAPES];
        final int[] capeY = new int[MOST_CAPES];
        final int[] reach = new int[MOST_LIGHTS];
        final int[] rank = new int[MOST_LIGHTS];
        final int[] steps = new int[MOST_LIGHTS];
        final int[] way = new int[MOST_LIGHTS * MOST_STEPS];
        final int[] flashes = new int[MOST_LIGHTS];
        final int[] sign = new int[MOST_LIGHTS];
        final int[] fog = new int[MOST_FOGS];
        final LawBook laws = new LawBook();

        void clear() {
            width = SIDE_UNTOLD;
            height = SIDE_UNTOLD;
            capes = 0;
            lights = 0;
            ships = 0;
            fogs = 0;
            laws.clear();
            for (int cell = 0; cell < MOST_CELLS; cell++) {
                isCape[cell] = false;
            }
        }

        int cells() {
            return width * height;
        }

        boolean isOpen(int cell) {
            return cell >= 0 && cell < cells() && !isCape[cell];
        }

        int columnOf(int cell) {
            return width <= 0 ? 0 : cell % width;
        }

        int rowOf(int cell) {
            return width <= 0 ? 0 : cell / width;
        }

        int stepOf(int light, int hour) {
            return way[light * MOST_STEPS + remainder(hour, steps[light])];
        }

        /** Where a step leads; NONE off the sea. */
        int cellBehind(int cell, int step) {
            int x = columnOf(cell);
            int y = rowOf(cell);
            switch (step) {
                case 0: return y > 0 ? cell - width : NONE;
                case 1: return x + 1 < width ? cell + 1 : NONE;
                case 2: return y + 1 < height ? cell + width : NONE;
                case 3: return x > 0 ? cell - 1 : NONE;
                default: return cell;
            }
        }

        int farBetween(int cell, int other) {
            return Math.max(Math.abs(columnOf(cell) - columnOf(other)), Math.abs(rowOf(cell) - rowOf(other)));
        }

        /** How far it is, or HIDDEN behind a cape. */
        int sight(int cell, int other) {
            int x = columnOf(cell);
            int y = rowOf(cell);
            int acrossX = columnOf(other) - x;
            int acrossY = rowOf(other) - y;
            for (int i = 0; i < capes; i++) {
                if (isBetween(capeX[i] - x, capeY[i] - y, acrossX, acrossY)) {
                    return HIDDEN;
                }
            }
            return Math.max(Math.abs(acrossX), Math.abs(acrossY));
        }

        /** Whether x, y is on the line from 0, 0 to the other place, and neither of both. */
        static boolean isBetween(int x, int y, int acrossX, int acrossY) {
            return x * acrossY == y * acrossX
                    && isWithin(x, acrossX) && isWithin(y, acrossY)
                    && (x != 0 || y != 0)
                    && (x != acrossX || y != acrossY);
        }

        static boolean isWithin(int part, int whole) {
            return whole >= 0 ? part >= 0 && part <= whole : part <= 0 && part >= whole;
        }

        int fogIn(int night) {
            return fogs <= 0 ? 0 : fog[remainder(night, fogs)];
        }

        boolean mayFlash(int light, int row, int many) {
            for (int from = 0; from < flashes[light]; from++) {
                if (flashesFrom(light, from, row, many)) {
                    return true;
                }
            }
            return false;
        }

        boolean flashesFrom(int light, int from, int row, int many) {
            int left = row;
            for (int i = 0; i < many; i++) {
                int was = left % 3;
                int is = sign[light] >> remainder(from + i, flashes[light]) & 1;
                if (was != 2 && was != is) {
                    return false;
                }
                left /= 3;
            }
            return true;
        }
    }

    /** What acts change, with the acts and the log: all that an image keeps. */
    private static final class Stand {
        final int[] begins = new int[MOST_LIGHTS];
        final int[] oil = new int[MOST_LIGHTS];
        final int[] moored = new int[MOST_SHIPS];
        final int[] wants = new int[MOST_SHIPS];
        final Acts acts = new Acts();
        final Logbook logbook = new Logbook();
        int force = NONE;

        void take(Stand other) {
            System.arraycopy(other.begins, 0, begins, 0, MOST_LIGHTS);
            System.arraycopy(other.oil, 0, oil, 0, MOST_LIGHTS);
            System.arraycopy(other.moored, 0, moored, 0, MOST_SHIPS);
            System.arraycopy(other.wants, 0, wants, 0, MOST_SHIPS);
            acts.take(other.acts);
            logbook.take(other.logbook);
            force = other.force;
        }

        void undoLast() {
            if (acts.held > 0) {
                acts.held--;
                change(acts.kinds[acts.held], acts.whiches[acts.held], acts.befores[acts.held]);
            }
        }

        /** Answers what was there before. */
        int change(int kind, int which, int value) {
            int before;
            switch (kind) {
                case ACT_OIL: before = oil[which]; oil[which] = value; break;
                case ACT_MOOR: before = moored[which]; moored[which] = value; break;
                case ACT_PUSH: before = begins[which]; begins[which] = value; break;
                case ACT_WANT: before = wants[which]; wants[which] = value; break;
                default: before = force; force = value; break;
            }
            return before;
        }
    }

    /** The latest acts, the oldest first, each with what was there before it. */
    private static final class Acts {
        final int[] kinds = new int[MOST_ACTS];
        final int[] whiches = new int[MOST_ACTS];
        final int[] befores = new int[MOST_ACTS];
        int held = 0;

        void keep(int kind, int which, int before) {
            if (held >= MOST_ACTS) {
                System.arraycopy(kinds, 1, kinds, 0, MOST_ACTS - 1);
                System.arraycopy(whiches, 1, whiches, 0, MOST_ACTS - 1);
                System.arraycopy(befores, 1, befores, 0, MOST_ACTS - 1);
                held = MOST_ACTS - 1;
            }
            kinds[held] = kind;
            whiches[held] = which;
            befores[held] = before;
            held++;
        }

        void take(Acts other) {
            System.arraycopy(other.kinds, 0, kinds, 0, MOST_ACTS);
            System.arraycopy(other.whiches, 0, whiches, 0, MOST_ACTS);
            System.arraycopy(other.befores, 0, befores, 0, MOST_ACTS);
            held = other.held;
        }
    }

    /** What was seen, or wasn't, by the ships' word. */
    private static final class Logbook {
        final int[] ships = new int[MOST_ENTRIES];
        final int[] hours = new int[MOST_ENTRIES];
        final int[] lights = new int[MOST_ENTRIES];
        final int[] told = new int[MOST_ENTRIES];
        int held = 0;

        void enter(int ship, int hour, int light, boolean was) {
            if (held < MOST_ENTRIES) {
                ships[held] = ship;
                hours[held] = hour;
                lights[held] = light;
                told[held] = was ? 1 : 0;
                held++;
            }
        }

        int falseBy(Course course) {
            int wrong = 0;
            for (int i = 0; i < held; i++) {
                if ((course.sightsOf(ships[i], hours[i]) >> lights[i] & 1) != told[i]) {
                    wrong++;
                }
            }
            return wrong;
        }

        void take(Logbook other) {
            System.arraycopy(other.ships, 0, ships, 0, MOST_ENTRIES);
            System.arraycopy(other.hours, 0, hours, 0, MOST_ENTRIES);
            System.arraycopy(other.lights, 0, lights, 0, MOST_ENTRIES);
            System.arraycopy(other.told, 0, told, 0, MOST_ENTRIES);
            held = other.held;
        }
    }

    /** Who goes ahead of whom, hour by hour: it hangs on oil and law alone, not on cells. */
    private static final class Turns {
        final int[] given = new int[HOURS * MOST_LIGHTS];
        final int[] order = new int[HOURS * MOST_LIGHTS];
        final int[] values = new int[LawBook.VALUES];

        void plan(Chart chart, Stand stand, int law) {
            for (int light = 0; light < chart.lights; light++) {
                weigh(chart, light, stand.oil[light], law);
            }
            arrange(chart.lights);
        }

        void weigh(Chart chart, int light, int oil, int law) {
            values[LawBook.RANK] = chart.rank[light];
            values[LawBook.LIGHT] = light;
            values[LawBook.REACH] = chart.reach[light];
            for (int hour = 0; hour < HOURS; hour++) {
                int gives = chart.rank[light];
                if (law != NONE) {
                    values[LawBook.OIL] = oilIn(oil, hour);
                    values[LawBook.HOUR] = hour % DAY;
                    values[LawBook.LIT] = isLit(oil, hour) ? 1 : 0;
                    gives = chart.laws.give(law, values);
                }
                given[hour * MOST_LIGHTS + light] = gives;
            }
        }

        void arrange(int lights) {
            for (int hour = 0; hour < HOURS; hour++) {
                int from = hour * MOST_LIGHTS;
                for (int light = 0; light < lights; light++) {
                    int at = light;
                    for (; at > 0 && given[from + order[from + at - 1]] < given[from + light]; at--) {
                        order[from + at] = order[from + at - 1];
                    }
                    order[from + at] = light;
                }
            }
        }
    }

    /** Where lights are and from where they are seen, hour by hour. */
    private static final class Course {
        final int[] cells = new int[MOST_LIGHTS * HOURS];
        final int[] sights = new int[MOST_SHIPS * HOURS];
        int hindered = 0;

        int cellOf(int light, int hour) {
            return cells[light * HOURS + hour];
        }

        int sightsOf(int ship, int hour) {
            return sights[ship * HOURS + hour];
        }

        void sail(Chart chart, Stand stand, Turns turns, int hours) {
            hindered = 0;
            for (int light = 0; light < chart.lights; light++) {
                cells[light * HOURS] = stand.begins[light];
            }
            for (int next = 1; next < hours; next++) {
                for (int light = 0; light < chart.lights; light++) {
                    cells[light * HOURS + next] = cells[light * HOURS + next - 1];
                }
                for (int turn = 0; turn < chart.lights; turn++) {
                    go(chart, turns.order[(next - 1) * MOST_LIGHTS + turn], next);
                }
            }
        }

        private void go(Chart chart, int light, int next) {
            int at = light * HOURS + next;
            int to = chart.cellBehind(cells[at], chart.stepOf(light, next - 1));
            if (!chart.isOpen(to)) {
                return;
            }
            for (int other = 0; other < chart.lights; other++) {
                if (other != light && cells[other * HOURS + next] == to) {
                    hindered++;
                    return;
                }
            }
            cells[at] = to;
        }

        void look(Chart chart, Stand stand, int[] views) {
            for (int night = 0; night < NIGHTS; night++) {
                lookInNight(chart, stand, views, night, chart.fogIn(night));
            }
        }

        void lookInNight(Chart chart, Stand stand, int[] views, int night, int fog) {
            for (int hour = night * DAY + DUSK; hour < night * DAY + DAY; hour++) {
                for (int ship = 0; ship < chart.ships; ship++) {
                    sights[ship * HOURS + hour] = 0;
                }
                for (int light = 0; light < chart.lights; light++) {
                    if (isLit(stand.oil[light], hour)) {
                        show(chart, views, light, hour, fog);
                    }
                }
            }
        }

        private void show(Chart chart, int[] views, int light, int hour, int fog) {
            int reach = chart.reach[light] - fog;
            int cell = cells[light * HOURS + hour];
            for (int ship = 0; ship < chart.ships; ship++) {
                if (views[ship * MOST_CELLS + cell] <= reach) {
                    sights[ship * HOURS + hour] |= 1 << light;
                }
            }
        }

        /** The watch of a ship, were these lights the only ones. */
        int hoursBy(int ship, int night, int lights) {
            int hours = 0;
            int from = ship * HOURS + night * DAY;
            for (int hour = DUSK; hour < DAY; hour++) {
                if ((sights[from + hour] & lights) != 0) {
                    hours++;
                }
            }
            return hours;
        }

        int contentBy(Chart chart, Stand stand, int night, int lights) {
            int contented = 0;
            for (int ship = 0; ship < chart.ships; ship++) {
                if (hoursBy(ship, night, lights) >= stand.wants[ship]) {
                    contented |= 1 << ship;
                }
            }
            return contented;
        }

        int sumOfWatches(int ships) {
            int sum = 0;
            for (int ship = 0; ship < ships; ship++) {
                for (int night = 0; night < NIGHTS; night++) {
                    sum += hoursBy(ship, night, ALL_LIGHTS);
                }
            }
            return sum;
        }

        int lightsIn(int ship, int night) {
            int lights = 0;
            int from = ship * HOURS + night * DAY;
            for (int hour = DUSK; hour < DAY; hour++) {
                lights |= sights[from + hour];
            }
            return lights;
        }

        int firstUnseen(int ship) {
            for (int night = 0; night < NIGHTS; night++) {
                if (lightsIn(ship, night) == 0) {
                    return night;
                }
            }
            return NONE;
        }

        int longestDark(int ship) {
            int longest = 0;
            int dark = 0;
            for (int hour = 0; hour < HOURS; hour++) {
                if (hour % DAY >= DUSK) {
                    dark = sights[ship * HOURS + hour] == 0 ? dark + 1 : 0;
                    longest = Math.max(longest, dark);
                }
            }
            return longest;
        }

        int travelsOf(int light) {
            int travels = 0;
            for (int hour = 0; hour + 1 < HOURS; hour++) {
                if (cellOf(light, hour) != cellOf(light, hour + 1)) {
                    travels++;
                }
            }
            return travels;
        }

        int stuckOf(Chart chart, int light) {
            int stuck = 0;
            for (int hour = 0; hour + 1 < HOURS; hour++) {
                if (cellOf(light, hour) == cellOf(light, hour + 1) && chart.stepOf(light, hour) != STAY) {
                    stuck++;
                }
            }
            return stuck;
        }

        int showsOf(int ships, int light) {
            int shows = 0;
            for (int ship = 0; ship < ships; ship++) {
                for (int hour = 0; hour < HOURS; hour++) {
                    shows += sights[ship * HOURS + hour] >> light & 1;
                }
            }
            return shows;
        }
    }

    /** Which lights must have unlike signs in a night. */
    private static final class Conflicts {
        final int[] foes = new int[MOST_LIGHTS];
        final int[] fewest = new int[1 << MOST_LIGHTS];

        void gather(Chart chart, Course course, int night) {
            for (int light = 0; light < chart.lights; light++) {
                foes[light] = 0;
            }
            for (int ship = 0; ship < chart.ships; ship++) {
                for (int hour = night * DAY + DUSK; hour < night * DAY + DAY; hour++) {
                    gatherFrom(course.sightsOf(ship, hour), chart.lights);
                }
            }
        }

        private void gatherFrom(int sights, int lights) {
            for (int light = 0; light < lights; light++) {
                if ((sights >> light & 1) == 1) {
                    foes[light] |= sights & ~(1 << light);
                }
            }
        }

        /** Of each set of lights: one sign goes to some that aren't foes, the rest need the fewest of theirs. */
        int fewestSigns(int lights) {
            int all = (1 << lights) - 1;
            fewest[0] = 0;
            for (int set = 1; set <= all; set++) {
                fewest[set] = MOST_LIGHTS;
                for (int alike = 1; alike <= set; alike++) {
                    if ((alike & set) == alike && isPeaceful(alike, lights)) {
                        fewest[set] = Math.min(fewest[set], 1 + fewest[set & ~alike]);
                    }
                }
            }
            return fewest[all];
        }

        private boolean isPeaceful(int set, int lights) {
            for (int light = 0; light < lights; light++) {
                if ((set >> light & 1) == 1 && (foes[light] & set) != 0) {
                    return false;
                }
            }
            return true;
        }

        int takenCouples(Chart chart) {
            int taken = 0;
            for (int light = 0; light < chart.lights; light++) {
                for (int other = light + 1; other < chart.lights; other++) {
                    if ((foes[light] >> other & 1) == 1 && chart.sign[light] == chart.sign[other]
                            && chart.flashes[light] == chart.flashes[other]) {
                        taken++;
                    }
                }
            }
            return taken;
        }
    }

    /** Lights and ships in an hour, and how they are matched. */
    private static final class Matching {
        /** The place of a ship among those that a light would have, of a light among those that a ship would. */
        final int[] shipPlace = new int[MOST_LIGHTS * MOST_SHIPS];
        final int[] lightPlace = new int[MOST_LIGHTS * MOST_SHIPS];
        final int[] far = new int[MOST_LIGHTS * MOST_SHIPS];
        final int[] shipOf = new int[MOST_LIGHTS];
        final int[] lightOf = new int[MOST_SHIPS];
        final int[] asked = new int[MOST_LIGHTS];
        int lights = 0;
        int ships = 0;

        void rankAll(Chart chart, Stand stand, Course course, int hour) {
            lights = chart.lights;
            ships = chart.ships;
            for (int light = 0; light < lights; light++) {
                for (int ship = 0; ship < ships; ship++) {
                    far[light * MOST_SHIPS + ship] =
                            chart.farBetween(course.cellOf(light, hour), stand.moored[ship]);
                }
            }
            for (int light = 0; light < lights; light++) {
                for (int ship = 0; ship < ships; ship++) {
                    shipPlace[light * MOST_SHIPS + ship] = nearerShips(light, ship);
                    lightPlace[light * MOST_SHIPS + ship] = brighterLights(chart, light, ship);
                }
            }
        }

        private int nearerShips(int light, int ship) {
            int own = far[light * MOST_SHIPS + ship];
            int ahead = 0;
            for (int other = 0; other < ships; other++) {
                int its = far[light * MOST_SHIPS + other];
                if (its < own || its == own && other < ship) {
                    ahead++;
                }
            }
            return ahead;
        }

        private int brighterLights(Chart chart, int light, int ship) {
            int own = chart.reach[light] - far[light * MOST_SHIPS + ship];
            int ahead = 0;
            for (int other = 0; other < lights; other++) {
                int its = chart.reach[other] - far[other * MOST_SHIPS + ship];
                if (its > own || its == own && other < light) {
                    ahead++;
                }
            }
            return ahead;
        }

        /** Lights ask in turn and a ship keeps the best that asked: no stable matching is better for lights. */
        int bestShipFor(int light) {
            for (int i = 0; i < lights; i++) {
                shipOf[i] = NONE;
                asked[i] = 0;
            }
            for (int ship = 0; ship < ships; ship++) {
                lightOf[ship] = NONE;
            }
            for (int round = 0; round < lights * ships; round++) {
                for (int asking = 0; asking < lights; asking++) {
                    if (shipOf[asking] == NONE && asked[asking] < ships) {
                        ask(asking);
                    }
                }
            }
            return shipOf[light];
        }

        private void ask(int light) {
            int place = asked[light];
            asked[light]++;
            for (int ship = 0; ship < ships; ship++) {
                if (shipPlace[light * MOST_SHIPS + ship] == place && wouldRather(ship, light, lightOf[ship])) {
                    if (lightOf[ship] != NONE) {
                        shipOf[lightOf[ship]] = NONE;
                    }
                    lightOf[ship] = light;
                    shipOf[light] = ship;
                }
            }
        }

        private boolean wouldRather(int ship, int light, int than) {
            return than == NONE
                    || lightPlace[light * MOST_SHIPS + ship] < lightPlace[than * MOST_SHIPS + ship];
        }

        private boolean lightWouldRather(int light, int ship, int than) {
            return than == NONE
                    || shipPlace[light * MOST_SHIPS + ship] < shipPlace[light * MOST_SHIPS + than];
        }

        int stableOnes() {
            for (int ship = 0; ship < ships; ship++) {
                lightOf[ship] = NONE;
            }
            return stableFrom(0);
        }

        /** How many stable matchings there are with what lights below this one have; at most five deep. */
        private int stableFrom(int light) {
            if (light >= lights) {
                return isNoShipLeftLonging() ? 1 : 0;
            }
            int found = 0;
            for (int ship = NONE; ship < ships; ship++) {
                if (ship == NONE || lightOf[ship] == NONE) {
                    shipOf[light] = ship;
                    if (isQuietBelow(light)) {
                        found += stableWith(light, ship);
                    }
                }
            }
            return found;
        }

        private int stableWith(int light, int ship) {
            if (ship == NONE) {
                return stableFrom(light + 1);
            }
            lightOf[ship] = light;
            int found = stableFrom(light + 1);
            lightOf[ship] = NONE;
            return found;
        }

        /** Whether this light and no lower one would rather change ships: else no more need be tried. */
        private boolean isQuietBelow(int light) {
            for (int other = 0; other < light; other++) {
                if (wantsShipOf(light, other) || wantsShipOf(other, light)) {
                    return false;
                }
            }
            return true;
        }

        private boolean wantsShipOf(int light, int other) {
            int ship = shipOf[other];
            return ship != NONE && lightWouldRather(light, ship, shipOf[light]) && wouldRather(ship, light, other);
        }

        private boolean isNoShipLeftLonging() {
            for (int ship = 0; ship < ships; ship++) {
                if (lightOf[ship] == NONE) {
                    for (int light = 0; light < lights; light++) {
                        if (lightWouldRather(light, ship, shipOf[light])) {
                            return false;
                        }
                    }
                }
            }
            return true;
        }
    }

    /** The laws, one behind the other, as orders to a stack: numbers stand for themselves, all else is below 0. */
    private static final class LawBook {
        static final int RANK = 0;
        static final int OIL = 1;
        static final int LIGHT = 2;
        static final int HOUR = 3;
        static final int REACH = 4;
        static final int LIT = 5;
        static final int VALUES = 6;

        static final int FIRST_VALUE = -1;
        static final int LAST_VALUE = -6;
        static final int NOT = -7;
        static final int OR = -8;
        static final int AND = -9;
        static final int LESS = -10;
        static final int LIKE = -11;
        static final int PLUS = -12;
        static final int MINUS = -13;
        static final int TIMES = -14;
        static final int BY = -15;

        /** A text has no more tokens than bytes, and a law no more orders than tokens. */
        final int[] orders = new int[MOST_BYTES];
        final int[] ends = new int[MOST_LAWS];
        /** Five joins may wait at each of six levels. */
        final int[] stack = new int[40];
        int length = 0;
        int told = 0;

        void clear() {
            length = 0;
            told = 0;
        }

        void put(int order) {
            if (length < MOST_BYTES) {
                orders[length] = order;
                length++;
            }
        }

        void close() {
            if (told < MOST_LAWS) {
                ends[told] = length;
                told++;
            }
        }

        int give(int law, int[] values) {
            if (law < 0 || law >= told) {
                return 0;
            }
            int held = 0;
            for (int i = law == 0 ? 0 : ends[law - 1]; i < ends[law]; i++) {
                int order = orders[i];
                if (order >= LAST_VALUE) {
                    if (held < stack.length) {
                        stack[held] = order >= 0 ? order : values[FIRST_VALUE - order];
                        held++;
                    }
                } else if (order == NOT) {
                    if (held >= 1) {
                        stack[held - 1] = stack[held - 1] == 0 ? 1 : 0;
                    }
                } else if (held >= 2) {
                    held--;
                    stack[held - 1] = join(order, stack[held - 1], stack[held]);
                }
            }
            return stack[0];
        }

        private static int join(int order, int left, int right) {
            switch (order) {
                case OR: return left != 0 || right != 0 ? 1 : 0;
                case AND: return left != 0 && right != 0 ? 1 : 0;
                case LESS: return left < right ? 1 : 0;
                case LIKE: return left == right ? 1 : 0;
                case PLUS: return left + right;
                case MINUS: return left - right;
                case TIMES: return left * right;
                default: return quotient(left, right);
            }
        }
    }

    /** The text, a token at a time. */
    private static final class Tokens {
        static final int END = 0;
        static final int NO_TOKEN = 1;
        static final int WORD = 2;
        static final int NUMBER = 3;
        static final int MOST_DIGITS = 4;
        static final int TOO_LONG = 10000;

        int[] text = new int[0];
        int length = 0;
        int place = 0;
        int behind = 0;
        /** One of the four above, or the byte of a sign. */
        int kind = END;
        int number = 0;

        void begin(int[] bytes, int many) {
            text = bytes;
            length = Math.min(many, bytes.length);
            behind = 0;
            next();
        }

        void next() {
            place = behind;
            for (; place < length && (text[place] == ' ' || text[place] == '\n'); place++) {
                // Blanks count for nothing.
            }
            behind = place;
            if (place >= length) {
                kind = END;
            } else if (isLetter(text[place])) {
                kind = WORD;
                for (; behind < length && isLetter(text[behind]); behind++) {
                    // The longest row.
                }
            } else if (isDigit(text[place])) {
                kind = NUMBER;
                number = 0;
                for (; behind < length && isDigit(text[behind]); behind++) {
                    number = behind - place < MOST_DIGITS ? number * 10 + text[behind] - '0' : TOO_LONG;
                }
            } else {
                kind = ";()+-*/<=".indexOf((char) text[place]) >= 0 ? text[place] : NO_TOKEN;
                behind = place + 1;
            }
        }

        static boolean isLetter(int sign) {
            return sign >= 'a' && sign <= 'z';
        }

        static boolean isDigit(int sign) {
            return sign >= '0' && sign <= '9';
        }

        int letters() {
            return behind - place;
        }

        char letterAt(int i) {
            return i >= 0 && place + i < behind ? (char) text[place + i] : ' ';
        }

        boolean isWord(String word) {
            if (kind != WORD || behind - place != word.length()) {
                return false;
            }
            for (int i = 0; i < word.length() && place + i < length; i++) {
                if (text[place + i] != word.charAt(i)) {
                    return false;
                }
            }
            return true;
        }
    }

    /** Reads a coast into a chart and a stand of its own; stops at the first fault. */
    private static final class Reader {
        static final int CAPE = 1;
        static final int LIGHT = 2;
        static final int SHIP = 4;
        static final int MOST_NOTS = 6;
        static final int MOST_WITHIN = 6;

        final Tokens tokens = new Tokens();
        final int[] marks = new int[MOST_CELLS];
        Chart chart = new Chart();
        Stand stand = new Stand();
        boolean foggy = false;
        int fault = 0;
        int place = NONE;

        /** Answers the fault, 0 without. */
        int read(int[] bytes, int many) {
            chart.clear();
            for (int cell = 0; cell < MOST_CELLS; cell++) {
                marks[cell] = 0;
            }
            foggy = false;
            fault = 0;
            place = NONE;
            stand.acts.held = 0;
            stand.logbook.held = 0;
            tokens.begin(bytes, many);
            if (tokens.isWord("sea")) {
                readSea();
            }
            for (int i = 0; i < MOST_BYTES && fault == 0 && tokens.kind != Tokens.END; i++) {
                readLine();
            }
            stand.force = chart.laws.told > 0 ? 0 : NONE;
            return fault;
        }

        private boolean refuse(int why) {
            fault = why;
            place = tokens.place;
            return false;
        }

        private boolean readLine() {
            if (tokens.isWord("cape")) {
                return readCape();
            }
            if (tokens.isWord("light")) {
                return readLight();
            }
            if (tokens.isWord("ship")) {
                return readShip();
            }
            if (tokens.isWord("fog")) {
                return readFog();
            }
            if (tokens.isWord("yields")) {
                return readLaw();
            }
            return refuse(1);
        }

        private boolean readSea() {
            tokens.next();
            int width = readNumber(1, MOST_SIDE);
            if (width == NONE) {
                return false;
            }
            int height = readNumber(1, MOST_SIDE);
            if (height == NONE) {
                return false;
            }
            chart.width = width;
            chart.height = height;
            return readSign(';');
        }

        private boolean readCape() {
            if (chart.capes >= MOST_CAPES) {
                return refuse(2);
            }
            tokens.next();
            int cell = readCell(CAPE, CAPE | LIGHT | SHIP);
            if (cell == NONE) {
                return false;
            }
            chart.isCape[cell] = true;
            chart.capeX[chart.capes] = chart.columnOf(cell);
            chart.capeY[chart.capes] = chart.rowOf(cell);
            chart.capes++;
            return readSign(';');
        }

        private boolean readLight() {
            int light = chart.lights;
            if (light >= MOST_LIGHTS) {
                return refuse(2);
            }
            tokens.next();
            stand.begins[light] = readCell(LIGHT, CAPE | LIGHT);
            if (fault == 0) {
                chart.reach[light] = readNumber(1, MOST_REACH);
            }
            if (fault == 0) {
                stand.oil[light] = readNumber(0, MOST_OIL);
            }
            if (fault == 0) {
                chart.rank[light] = readNumber(0, MOST_RANK);
            }
            if (fault != 0 || !readWay(light) || !readFlashes(light)) {
                return false;
            }
            chart.lights++;
            return readSign(';');
        }

        private boolean readShip() {
            int ship = chart.ships;
            if (ship >= MOST_SHIPS) {
                return refuse(2);
            }
            tokens.next();
            stand.moored[ship] = readCell(SHIP, CAPE | SHIP);
            if (fault == 0) {
                stand.wants[ship] = readNumber(0, MOST_WANT);
            }
            if (fault != 0) {
                return false;
            }
            chart.ships++;
            return readSign(';');
        }

        private boolean readFog() {
            if (foggy) {
                return refuse(5);
            }
            foggy = true;
            tokens.next();
            for (int i = 0; i <= MOST_FOGS && (i == 0 || tokens.kind == Tokens.NUMBER); i++) {
                if (i == MOST_FOGS) {
                    return refuse(2);
                }
                int fog = readNumber(0, MOST_FOG);
                if (fog == NONE) {
                    return false;
                }
                chart.fog[i] = fog;
                chart.fogs++;
            }
            return readSign(';');
        }

        private boolean readLaw() {
            if (chart.laws.told >= MOST_LAWS) {
                return refuse(2);
            }
            tokens.next();
            if (!readExpr(0)) {
                return false;
            }
            chart.laws.close();
            return readSign(';');
        }

        private boolean readSign(int sign) {
            if (tokens.kind != sign) {
                return refuse(1);
            }
            tokens.next();
            return true;
        }

        /** The number that stands here, not yet passed, as its cell may still be at fault; NONE with a fault. */
        private int numberHere(int least, int most) {
            if (tokens.kind != Tokens.NUMBER) {
                refuse(1);
                return NONE;
            }
            if (tokens.number < least || tokens.number > most) {
                refuse(2);
                return NONE;
            }
            return tokens.number;
        }

        private int readNumber(int least, int most) {
            int number = numberHere(least, most);
            if (number != NONE) {
                tokens.next();
            }
            return number;
        }

        private int readCell(int mark, int barred) {
            int x = numberHere(0, chart.width - 1);
            if (x == NONE) {
                return NONE;
            }
            tokens.next();
            int y = numberHere(0, chart.height - 1);
            if (y == NONE) {
                return NONE;
            }
            int cell = chart.width * y + x;
            if ((marks[cell] & barred) != 0) {
                refuse(4);
                return NONE;
            }
            marks[cell] |= mark;
            tokens.next();
            return cell;
        }

        private boolean isWordOf(String letters, int most) {
            if (tokens.kind != Tokens.WORD) {
                return refuse(1);
            }
            for (int i = 0; i < tokens.letters(); i++) {
                if (letters.indexOf(tokens.letterAt(i)) < 0) {
                    return refuse(3);
                }
            }
            return tokens.letters() <= most || refuse(2);
        }

        private boolean readWay(int light) {
            if (!isWordOf("neswo", MOST_STEPS)) {
                return false;
            }
            chart.steps[light] = tokens.letters();
            for (int i = 0; i < MOST_STEPS && i < tokens.letters(); i++) {
                chart.way[light * MOST_STEPS + i] = "neswo".indexOf(tokens.letterAt(i));
            }
            tokens.next();
            return true;
        }

        private boolean readFlashes(int light) {
            if (!isWordOf("lk", MOST_FLASHES)) {
                return false;
            }
            chart.flashes[light] = tokens.letters();
            chart.sign[light] = 0;
            for (int i = 0; i < MOST_FLASHES && i < tokens.letters(); i++) {
                if (tokens.letterAt(i) == 'l') {
                    chart.sign[light] |= 1 << i;
                }
            }
            tokens.next();
            return true;
        }

        private boolean canBeginExpr() {
            return tokens.kind == Tokens.NUMBER || tokens.kind == Tokens.WORD || tokens.kind == '(';
        }

        private boolean readExpr(int within) {
            if (within >= MOST_WITHIN) {
                return refuse(canBeginExpr() ? 2 : 1);
            }
            if (!readAnd(within)) {
                return false;
            }
            for (int i = 0; i < MOST_BYTES && tokens.isWord("or"); i++) {
                tokens.next();
                if (!readAnd(within)) {
                    return false;
                }
                chart.laws.put(LawBook.OR);
            }
            return true;
        }

        private boolean readAnd(int within) {
            if (!readNot(within)) {
                return false;
            }
            for (int i = 0; i < MOST_BYTES && tokens.isWord("and"); i++) {
                tokens.next();
                if (!readNot(within)) {
                    return false;
                }
                chart.laws.put(LawBook.AND);
            }
            return true;
        }

        private boolean readNot(int within) {
            int nots = 0;
            for (; nots < MOST_NOTS && tokens.isWord("not"); nots++) {
                tokens.next();
            }
            if (nots == MOST_NOTS && tokens.isWord("not")) {
                return refuse(2);
            }
            if (!readTest(within)) {
                return false;
            }
            for (int i = 0; i < nots; i++) {
                chart.laws.put(LawBook.NOT);
            }
            return true;
        }

        private boolean readTest(int within) {
            if (!readSum(within)) {
                return false;
            }
            int sign = tokens.kind;
            if (sign != '<' && sign != '=') {
                return true;
            }
            tokens.next();
            if (!readSum(within)) {
                return false;
            }
            chart.laws.put(sign == '<' ? LawBook.LESS : LawBook.LIKE);
            return true;
        }

        private boolean readSum(int within) {
            if (!readProduct(within)) {
                return false;
            }
            for (int i = 0; i < MOST_BYTES && (tokens.kind == '+' || tokens.kind == '-'); i++) {
                int order = tokens.kind == '+' ? LawBook.PLUS : LawBook.MINUS;
                tokens.next();
                if (!readProduct(within)) {
                    return false;
                }
                chart.laws.put(order);
            }
            return true;
        }

        private boolean readProduct(int within) {
            if (!readPart(within)) {
                return false;
            }
            for (int i = 0; i < MOST_BYTES && (tokens.kind == '*' || tokens.kind == '/'); i++) {
                int order = tokens.kind == '*' ? LawBook.TIMES : LawBook.BY;
                tokens.next();
                if (!readPart(within)) {
                    return false;
                }
                chart.laws.put(order);
            }
            return true;
        }

        private boolean readPart(int within) {
            if (tokens.kind == '(') {
                tokens.next();
                return readExpr(within + 1) && readSign(')');
            }
            if (tokens.kind == Tokens.WORD) {
                return readValue();
            }
            int number = readNumber(0, Tokens.TOO_LONG - 1);
            if (number == NONE) {
                return false;
            }
            chart.laws.put(number);
            return true;
        }

        private boolean readValue() {
            int value = valueHere();
            if (value == NONE) {
                return refuse(3);
            }
            chart.laws.put(LawBook.FIRST_VALUE - value);
            tokens.next();
            return true;
        }

        private int valueHere() {
            if (tokens.isWord("rank")) {
                return LawBook.RANK;
            }
            if (tokens.isWord("oil")) {
                return LawBook.OIL;
            }
            if (tokens.isWord("light")) {
                return LawBook.LIGHT;
            }
            if (tokens.isWord("hour")) {
                return LawBook.HOUR;
            }
            if (tokens.isWord("reach")) {
                return LawBook.REACH;
            }
            return tokens.isWord("lit") ? LawBook.LIT : NONE;
        }
    }
}
