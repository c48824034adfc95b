import java.util.Arrays;

/**
 * Oil on a bay and those who fetch it. What each call promises stands in ../shared/DOC.md,
 * whose capital words (CELL, SHORE, HOUR ..) the comments here use.
 */
public final class Slickboom {
    public static final int NONE = -1;
    public static final int WATER = 0, ROCK = 1, SAND = 2, MARSH = 3;
    public static final int EAST = 0, WEST = 1, SOUTH = 2, NORTH = 3;
    public static final int BOOM = 0, SKIMMER = 1, TEAM = 2;
    public static final int DISPERSING = 0, BURNING = 1;
    public static final int LIQUID = 0, SOLID = 1;

    private static final int ROWS = 4, COLUMNS = 6, CELLS = ROWS * COLUMNS;
    private static final int FIRST_DEPTH = 20, MOST_DEPTH = 99;
    private static final int MOST_WIND = 9, WIND_PARTS = 10;
    private static final int MOST_SHIPS = 4, MOST_HOLE = 99, LEVEL_LITRES = 1000;
    private static final int MOST_LITRES = 100000;
    private static final int LAST_HOUR = 2000, MOST_HOURS = 48, TIDE_HOURS = 12, HIGH_TIDE = 6;
    /** Above all litres that 4 SHIPS can ever have. */
    private static final int ENDLESS_ROOM = 1000000;
    private static final int AIR_PART = 20, THICK_PART = 10, SUNK_PART = 50;
    private static final int MOST_MEANS = 20, MOST_BOOM = 9, MOST_RATE = 500, MOST_STORE = 5000;
    private static final int MOST_PEOPLE = 50, LITRES_EACH = 10, MOST_WORK = 8, REST_HOURS = 12;
    private static final int RULES = 5;
    private static final int BIRDS_AT_ONCE = 100, MOST_BIRDS = 1000, OILING_LITRES = 100;
    private static final int SIGNERS = 3, CLEAN_SIGNATURES = 2, CLEAN_PART = 20;
    private static final int SORTS = 2, MOST_SITES = 3;
    private static final int MOST_CLAIMS = 20, MOST_CENTS = 1000000, MOST_LAYER = 10000000;

    /** Litres that a SHORE holds, by what it is. */
    private static final int[] HOLDS = {0, 200, 500, 1000};
    /** One of so many litres comes back from a SHORE, by what it is; 0 where none does. */
    private static final int[] BACK_PARTS = {0, 5, 10, 0};

    private final Bay bay;
    /** Made once, for every ahead again: a new one for each call would fill the room. */
    private final Bay trial;
    private final NextHour nextHour;
    private final Rules rules;
    private final Dump dump;
    private final Payers payers;

    public Slickboom() {
        bay = new Bay();
        trial = new Bay();
        nextHour = new NextHour(bay);
        rules = new Rules(bay);
        dump = new Dump();
        payers = new Payers();
    }

    // ---- the bay, ships

    public int shore(int cell, int kind)
            throws IndexOutOfBoundsException, IllegalArgumentException, IllegalStateException {
        needNumber(cell, CELLS);
        needRange(kind, WATER, MARSH);
        if (bay.hour != 0) {
            throw new IllegalStateException("the HOUR is not 0");
        }
        if (bay.ships.isAnyAt(cell) || bay.means.isSkimmerAt(cell)) {
            throw new IllegalStateException("a SHIP or a SKIMMER is there");
        }
        int before = bay.cells.kind[cell];
        bay.cells.become(cell, kind);
        return before;
    }

    public int depth(int cell, int depth)
            throws IndexOutOfBoundsException, IllegalArgumentException, IllegalStateException {
        needNumber(cell, CELLS);
        needRange(depth, 1, MOST_DEPTH);
        needWater(cell);
        int before = bay.cells.depth[cell];
        bay.cells.depth[cell] = depth;
        return before;
    }

    public int wind(int way, int strength) throws IllegalArgumentException {
        needRange(way, EAST, NORTH);
        needRange(strength, 0, MOST_WIND);
        int before = 10 * bay.windWay + bay.windStrength;
        bay.windWay = way;
        bay.windStrength = strength;
        return before;
    }

    public int ship(int cell, int litres)
            throws IndexOutOfBoundsException, IllegalArgumentException, IllegalStateException {
        needNumber(cell, CELLS);
        needRange(litres, 0, MOST_LITRES);
        needWater(cell);
        if (bay.ships.count >= MOST_SHIPS) {
            throw new IllegalStateException("there are 4 SHIPS");
        }
        return bay.ships.add(cell, litres);
    }

    public int hole(int ship, int rate) throws IndexOutOfBoundsException, IllegalArgumentException {
        needNumber(ship, bay.ships.count);
        needRange(rate, 0, MOST_HOLE);
        int before = bay.ships.rate[ship];
        bay.ships.rate[ship] = rate;
        return before;
    }

    public int pump(int ship, int other, int litres)
            throws IndexOutOfBoundsException, IllegalArgumentException, IllegalStateException {
        needNumber(ship, bay.ships.count);
        needNumber(other, bay.ships.count);
        if (ship == other) {
            throw new IllegalArgumentException("both SHIPS are the same");
        }
        needRange(litres, 1, MOST_LITRES);
        int[] has = bay.ships.litres;
        if (has[ship] < litres || has[other] + litres > MOST_LITRES) {
            throw new IllegalStateException("the SHIP has fewer, or the other one no room");
        }
        has[ship] -= litres;
        has[other] += litres;
        return has[other];
    }

    public int shipHas(int ship) throws IndexOutOfBoundsException {
        needNumber(ship, bay.ships.count);
        return bay.ships.litres[ship];
    }

    public int pass(int hours) throws IllegalArgumentException, IllegalStateException {
        needRange(hours, 1, MOST_HOURS);
        if (bay.hour + hours > LAST_HOUR) {
            throw new IllegalStateException("the HOUR would be above 2000");
        }
        bay.letPass(hours);
        return bay.hour;
    }

    public int at(int cell, int what) throws IndexOutOfBoundsException, IllegalArgumentException {
        needNumber(cell, CELLS);
        needRange(what, 0, 8);
        Cells cells = bay.cells;
        switch (what) {
            case 0: return cells.fresh[cell];
            case 1: return cells.thick[cell];
            case 2: return cells.stranded[cell];
            case 3: return cells.kind[cell];
            case 4: return cells.depth[cell];
            case 5: return cells.birds[cell];
            case 6: return cells.oiled[cell];
            case 7: return cells.signatures[cell];
            default: return cells.isClean(cell) ? 1 : 0;
        }
    }

    // ---- means

    public int boom(int cell, int way, int strength)
            throws IndexOutOfBoundsException, IllegalArgumentException, IllegalStateException {
        needNumber(cell, CELLS);
        needRange(way, EAST, NORTH);
        needRange(strength, 1, MOST_BOOM);
        if (bay.means.boomOn(cell, way) != NONE) {
            throw new IllegalStateException("there is a BOOM on that border");
        }
        needRoomForMeans();
        int mean = bay.means.add(BOOM, cell, strength);
        bay.means.way[mean] = way;
        return mean;
    }

    public int skimmer(int cell, int rate, int store)
            throws IndexOutOfBoundsException, IllegalArgumentException, IllegalStateException {
        needNumber(cell, CELLS);
        needRange(rate, 1, MOST_RATE);
        needRange(store, 1, MOST_STORE);
        needWater(cell);
        needRoomForMeans();
        int mean = bay.means.add(SKIMMER, cell, rate);
        bay.means.store[mean] = store;
        return mean;
    }

    public int team(int people, boolean isTaught) throws IllegalArgumentException, IllegalStateException {
        needRange(people, 1, MOST_PEOPLE);
        needRoomForMeans();
        int mean = bay.means.add(TEAM, NONE, people);
        bay.means.taught[mean] = isTaught;
        return mean;
    }

    public int move(int mean, int cell) throws IndexOutOfBoundsException, IllegalStateException {
        needNumber(mean, bay.means.count);
        needNumber(cell, CELLS);
        needSort(mean, SKIMMER);
        needWater(cell);
        int before = bay.means.cell[mean];
        bay.means.cell[mean] = cell;
        return before;
    }

    public int carry(int mean) throws IndexOutOfBoundsException, IllegalStateException {
        needNumber(mean, bay.means.count);
        needSort(mean, SKIMMER);
        int litres = bay.means.tally[mean];
        bay.means.tally[mean] = 0;
        dump.waste[LIQUID] += litres;
        return litres;
    }

    public boolean teach(int mean) throws IndexOutOfBoundsException, IllegalStateException {
        needNumber(mean, bay.means.count);
        needSort(mean, TEAM);
        boolean before = bay.means.taught[mean];
        bay.means.taught[mean] = true;
        return before;
    }

    public int clean(int mean, int cell) throws IndexOutOfBoundsException, IllegalStateException {
        needNumber(mean, bay.means.count);
        needNumber(cell, CELLS);
        needSort(mean, TEAM);
        needShore(cell);
        if (!bay.means.canWork(mean, bay.hour)) {
            throw new IllegalStateException("the TEAM cannot clean");
        }
        bay.means.noteWork(mean, bay.hour);
        int litres = Math.min(LITRES_EACH * bay.means.power[mean], bay.cells.stranded[cell]);
        bay.cells.stranded[cell] -= litres;
        dump.waste[SOLID] += litres;
        return litres;
    }

    public int meanIs(int mean, int what) throws IndexOutOfBoundsException, IllegalArgumentException {
        needNumber(mean, bay.means.count);
        needRange(what, 0, 3);
        switch (what) {
            case 0: return bay.means.sort[mean];
            case 1: return bay.means.cell[mean];
            case 2: return bay.means.power[mean];
            default: return bay.means.tally[mean];
        }
    }

    public int use(int cell, int use)
            throws IndexOutOfBoundsException, IllegalArgumentException, IllegalStateException {
        needNumber(cell, CELLS);
        needRange(use, DISPERSING, BURNING);
        needWater(cell);
        if (rules.howMany(cell, use) > 0) {
            throw new IllegalStateException("a rule is against it");
        }
        return use == DISPERSING ? bay.disperse(cell) : bay.burn(cell);
    }

    public int why(int cell, int use, int what)
            throws IndexOutOfBoundsException, IllegalArgumentException, IllegalStateException {
        needNumber(cell, CELLS);
        needRange(use, DISPERSING, BURNING);
        needRange(what, 0, 2);
        needWater(cell);
        switch (what) {
            case 0: return rules.first(cell, use);
            case 1: return rules.last(cell, use);
            default: return rules.howMany(cell, use);
        }
    }

    // ---- shores, waste, claims

    public int birds(int cell, int many)
            throws IndexOutOfBoundsException, IllegalArgumentException, IllegalStateException {
        needNumber(cell, CELLS);
        needRange(many, 1, BIRDS_AT_ONCE);
        needShore(cell);
        if (bay.cells.birds[cell] + many > MOST_BIRDS) {
            throw new IllegalStateException("there would be more than 1000 birds");
        }
        bay.cells.birds[cell] += many;
        return bay.cells.birds[cell];
    }

    public int wash(int cell, int many)
            throws IndexOutOfBoundsException, IllegalArgumentException, IllegalStateException {
        needNumber(cell, CELLS);
        needRange(many, 1, BIRDS_AT_ONCE);
        needShore(cell);
        int washed = Math.min(many, bay.cells.oiled[cell]);
        bay.cells.oiled[cell] -= washed;
        return washed;
    }

    public boolean sign(int cell, int who)
            throws IndexOutOfBoundsException, IllegalArgumentException, IllegalStateException {
        needNumber(cell, CELLS);
        needRange(who, 0, SIGNERS - 1);
        needShore(cell);
        int signature = 1 << who;
        if (bay.cells.isTooDirty(cell)) {
            throw new IllegalStateException("the SHORE has too much STRANDED oil");
        }
        if ((bay.cells.signatures[cell] & signature) != 0) {
            throw new IllegalStateException("the SHORE was signed by them");
        }
        bay.cells.signatures[cell] |= signature;
        return bay.cells.isClean(cell);
    }

    public int site(int liquid, int solid) throws IllegalArgumentException, IllegalStateException {
        needRange(liquid, 0, MOST_LITRES);
        needRange(solid, 0, MOST_LITRES);
        if (dump.sites >= MOST_SITES) {
            throw new IllegalStateException("there are 3 SITES");
        }
        return dump.addSite(liquid, solid);
    }

    public int deliver(int site, int sort, int litres)
            throws IndexOutOfBoundsException, IllegalArgumentException, IllegalStateException {
        needNumber(site, dump.sites);
        needRange(sort, LIQUID, SOLID);
        needRange(litres, 1, MOST_LITRES);
        if (dump.waste[sort] < litres || dump.roomFor(site, sort) < litres) {
            throw new IllegalStateException("there is less waste of that sort, or less room");
        }
        dump.take(site, sort, litres);
        return dump.roomFor(site, sort);
    }

    public int waste(int sort) throws IllegalArgumentException {
        needRange(sort, LIQUID, SOLID);
        return dump.waste[sort];
    }

    public int claim(int cents) throws IllegalArgumentException, IllegalStateException {
        needRange(cents, 1, MOST_CENTS);
        if (payers.count >= MOST_CLAIMS) {
            throw new IllegalStateException("there are 20 CLAIMS");
        }
        return payers.add(cents);
    }

    public int layers(int owner, int fund) throws IllegalArgumentException {
        needRange(owner, 0, MOST_LAYER);
        needRange(fund, 0, MOST_LAYER);
        int before = payers.owner + payers.fund;
        payers.owner = owner;
        payers.fund = fund;
        return before;
    }

    public int due(int claim, int what) throws IndexOutOfBoundsException, IllegalArgumentException {
        needNumber(claim, payers.count);
        needRange(what, 0, 1);
        long gets = payers.getsOf(claim);
        long fromOwner = payers.ownersPartOf(gets);
        return (int) (what == 0 ? fromOwner : gets - fromOwner);
    }

    // ---- what would be, books

    public int ahead(int cell, int hours) throws IndexOutOfBoundsException, IllegalArgumentException {
        needNumber(cell, CELLS);
        needRange(hours, 1, MOST_HOURS);
        trial.becomeLike(bay);
        trial.letPass(hours);
        return trial.cells.oilOf(cell);
    }

    public int nextAnew(int cell) throws IndexOutOfBoundsException {
        needNumber(cell, CELLS);
        return bay.cells.isWater(cell) ? nextHour.floatingOf(cell) : nextHour.strandedOf(cell);
    }

    public int sum(int what) throws IllegalArgumentException {
        needRange(what, 0, 11);
        Books books = bay.books;
        switch (what) {
            case 0: return bay.hour;
            case 1: return books.leaked;
            case 2: return bay.ships.allLitres();
            case 3: return bay.cells.allFloating();
            case 4: return books.air;
            case 5: return books.sunk;
            case 6: return books.out;
            case 7: return bay.cells.allStranded();
            case 8: return bay.means.allInStores();
            case 9: return books.deep;
            case 10: return books.burnt;
            default: return dump.allWaste();
        }
    }

    // ---- what calls need, or else throw

    private static void needNumber(int number, int count) {
        if (number < 0 || number >= count) {
            throw new IndexOutOfBoundsException("there is none with such a number");
        }
    }

    private static void needRange(int value, int least, int most) {
        if (value < least || value > most) {
            throw new IllegalArgumentException("an argument is out of range");
        }
    }

    private void needWater(int cell) {
        if (!bay.cells.isWater(cell)) {
            throw new IllegalStateException("the CELL is a SHORE");
        }
    }

    private void needShore(int cell) {
        if (bay.cells.isWater(cell)) {
            throw new IllegalStateException("the CELL is WATER");
        }
    }

    private void needRoomForMeans() {
        if (bay.means.count >= MOST_MEANS) {
            throw new IllegalStateException("there are 20 means");
        }
    }

    private void needSort(int mean, int sort) {
        if (bay.means.sort[mean] != sort) {
            throw new IllegalStateException("the mean is of another sort");
        }
    }

    /** The CELLS, by their numbers: what they are, and what floats, lies and lives there. */
    private static final class Cells {
        final int[] kind;
        final int[] depth;
        final int[] fresh;
        final int[] thick;
        final int[] stranded;
        final int[] birds;
        final int[] oiled;
        final int[] signatures;

        Cells() {
            kind = new int[CELLS];
            depth = new int[CELLS];
            Arrays.fill(depth, FIRST_DEPTH);
            fresh = new int[CELLS];
            thick = new int[CELLS];
            stranded = new int[CELLS];
            birds = new int[CELLS];
            oiled = new int[CELLS];
            signatures = new int[CELLS];
        }

        /** The CELL to which a way leads, or NONE where it leads out of the bay. */
        static int beside(int cell, int way) {
            int row = cell / COLUMNS;
            int column = cell % COLUMNS;
            switch (way) {
                case EAST: return column < COLUMNS - 1 ? cell + 1 : NONE;
                case WEST: return column > 0 ? cell - 1 : NONE;
                case SOUTH: return row < ROWS - 1 ? cell + COLUMNS : NONE;
                default: return row > 0 ? cell - COLUMNS : NONE;
            }
        }

        static int opposite(int way) {
            switch (way) {
                case EAST: return WEST;
                case WEST: return EAST;
                case SOUTH: return NORTH;
                default: return SOUTH;
            }
        }

        /** The lowest CELL of WATER beside one, or NONE. */
        int lowestWaterBeside(int cell) {
            int lowest = NONE;
            for (int way = EAST; way <= NORTH; way++) {
                int other = beside(cell, way);
                if (other != NONE && isWater(other) && (lowest == NONE || other < lowest)) {
                    lowest = other;
                }
            }
            return lowest;
        }

        boolean isKindBeside(int cell, int leastKind, int mostKind) {
            for (int way = EAST; way <= NORTH; way++) {
                int other = beside(cell, way);
                if (other != NONE && kind[other] >= leastKind && kind[other] <= mostKind) {
                    return true;
                }
            }
            return false;
        }

        boolean isWater(int cell) {
            return kind[cell] == WATER;
        }

        void become(int cell, int newKind) {
            kind[cell] = newKind;
            depth[cell] = newKind == WATER ? FIRST_DEPTH : 0;
            birds[cell] = 0;
            oiled[cell] = 0;
            signatures[cell] = 0;
        }

        int roomOf(int cell) {
            return HOLDS[kind[cell]] - stranded[cell];
        }

        /** What a SHORE gives back of so many STRANDED litres. */
        int backOf(int cell, int litres) {
            int part = BACK_PARTS[kind[cell]];
            return part == 0 ? 0 : litres / part;
        }

        boolean isTooDirty(int cell) {
            return stranded[cell] > HOLDS[kind[cell]] / CLEAN_PART;
        }

        boolean isClean(int cell) {
            return Integer.bitCount(signatures[cell]) >= CLEAN_SIGNATURES;
        }

        void oilBirds(int cell) {
            int more = Math.min(stranded[cell] / OILING_LITRES, birds[cell] - oiled[cell]);
            oiled[cell] += more;
        }

        int oilOf(int cell) {
            return fresh[cell] + thick[cell] + stranded[cell];
        }

        int allFloating() {
            int all = 0;
            for (int cell = 0; cell < CELLS; cell++) {
                all += fresh[cell] + thick[cell];
            }
            return all;
        }

        int allStranded() {
            int all = 0;
            for (int cell = 0; cell < CELLS; cell++) {
                all += stranded[cell];
            }
            return all;
        }

        /** Leaves out what an ahead never answers, nor decides where a litre goes. */
        void becomeLike(Cells other) {
            System.arraycopy(other.kind, 0, kind, 0, CELLS);
            System.arraycopy(other.fresh, 0, fresh, 0, CELLS);
            System.arraycopy(other.thick, 0, thick, 0, CELLS);
            System.arraycopy(other.stranded, 0, stranded, 0, CELLS);
        }
    }

    /** The SHIPS, by their numbers. */
    private static final class Ships {
        int count;
        final int[] cell;
        final int[] litres;
        final int[] rate;

        Ships() {
            cell = new int[MOST_SHIPS];
            litres = new int[MOST_SHIPS];
            rate = new int[MOST_SHIPS];
        }

        int add(int newCell, int newLitres) {
            int ship = count;
            cell[ship] = newCell;
            litres[ship] = newLitres;
            count++;
            return ship;
        }

        boolean isAnyAt(int where) {
            for (int ship = 0; ship < count; ship++) {
                if (cell[ship] == where) {
                    return true;
                }
            }
            return false;
        }

        int leakOf(int ship, int tide) {
            int above = litres[ship] / LEVEL_LITRES - tide;
            return above > 0 ? Math.min(rate[ship] * above, litres[ship]) : 0;
        }

        int allLitres() {
            int all = 0;
            for (int ship = 0; ship < count; ship++) {
                all += litres[ship];
            }
            return all;
        }

        void becomeLike(Ships other) {
            count = other.count;
            System.arraycopy(other.cell, 0, cell, 0, MOST_SHIPS);
            System.arraycopy(other.litres, 0, litres, 0, MOST_SHIPS);
            System.arraycopy(other.rate, 0, rate, 0, MOST_SHIPS);
        }
    }

    /** The means, by their numbers. */
    private static final class Means {
        int count;
        final int[] sort;
        final int[] cell;
        final int[] way;
        /** Strength of a BOOM, rate of a SKIMMER, people of a TEAM. */
        final int[] power;
        final int[] store;
        /** 1 of a BOOM that is BROKEN, litres in a SKIMMER's store, times that a TEAM has worked. */
        final int[] tally;
        final boolean[] taught;
        final int[] lastWork;

        Means() {
            sort = new int[MOST_MEANS];
            cell = new int[MOST_MEANS];
            way = new int[MOST_MEANS];
            power = new int[MOST_MEANS];
            store = new int[MOST_MEANS];
            tally = new int[MOST_MEANS];
            taught = new boolean[MOST_MEANS];
            lastWork = new int[MOST_MEANS];
        }

        int add(int newSort, int newCell, int newPower) {
            int mean = count;
            sort[mean] = newSort;
            cell[mean] = newCell;
            power[mean] = newPower;
            lastWork[mean] = NONE;
            count++;
            return mean;
        }

        boolean isSkimmer(int mean, int where) {
            return sort[mean] == SKIMMER && cell[mean] == where;
        }

        boolean isSkimmerAt(int where) {
            for (int mean = 0; mean < count; mean++) {
                if (isSkimmer(mean, where)) {
                    return true;
                }
            }
            return false;
        }

        /** The BOOM on a border that is not BROKEN, or NONE; a border has two names inside the bay. */
        int boomOn(int where, int by) {
            int other = Cells.beside(where, by);
            int back = Cells.opposite(by);
            for (int mean = 0; mean < count; mean++) {
                if (sort[mean] == BOOM && tally[mean] == 0
                        && (cell[mean] == where && way[mean] == by
                        || other != NONE && cell[mean] == other && way[mean] == back)) {
                    return mean;
                }
            }
            return NONE;
        }

        int freshTaken(int skimmer, int fresh) {
            int room = store[skimmer] - tally[skimmer];
            return Math.min(Math.min(power[skimmer], fresh), room);
        }

        int thickTaken(int skimmer, int freshTaken, int thick) {
            int room = store[skimmer] - tally[skimmer] - freshTaken;
            return Math.min(Math.min((power[skimmer] - freshTaken) / 2, thick), room);
        }

        boolean canWork(int team, int hour) {
            if (!taught[team] || lastWork[team] == hour) {
                return false;
            }
            return hasRested(team, hour) || tally[team] < MOST_WORK;
        }

        void noteWork(int team, int hour) {
            tally[team] = hasRested(team, hour) ? 1 : tally[team] + 1;
            lastWork[team] = hour;
        }

        private boolean hasRested(int team, int hour) {
            return lastWork[team] == NONE || hour - lastWork[team] >= REST_HOURS;
        }

        int allInStores() {
            int all = 0;
            for (int mean = 0; mean < count; mean++) {
                if (sort[mean] == SKIMMER) {
                    all += tally[mean];
                }
            }
            return all;
        }

        /** Leaves out what only TEAMS have: no HOUR reads it. */
        void becomeLike(Means other) {
            count = other.count;
            System.arraycopy(other.sort, 0, sort, 0, MOST_MEANS);
            System.arraycopy(other.cell, 0, cell, 0, MOST_MEANS);
            System.arraycopy(other.way, 0, way, 0, MOST_MEANS);
            System.arraycopy(other.power, 0, power, 0, MOST_MEANS);
            System.arraycopy(other.store, 0, store, 0, MOST_MEANS);
            System.arraycopy(other.tally, 0, tally, 0, MOST_MEANS);
        }
    }

    /** Litres that are nowhere in the bay any more, and when the first one leaked. */
    private static final class Books {
        int leaked;
        int firstLeak;
        int air;
        int sunk;
        int out;
        int deep;
        int burnt;

        Books() {
            firstLeak = NONE;
        }

        void noteLeak(int litres, int hour) {
            if (litres > 0 && firstLeak == NONE) {
                firstLeak = hour;
            }
            leaked += litres;
        }
    }

    /** All that HOURS change, and how they do it. */
    private static final class Bay {
        final Cells cells;
        final Ships ships;
        final Means means;
        final Books books;
        int hour;
        int windWay;
        int windStrength;
        /** What goes from each CELL: all is found before any of it goes, for it goes all at once. */
        private final int[] freshGoes;
        private final int[] thickGoes;

        Bay() {
            cells = new Cells();
            ships = new Ships();
            means = new Means();
            books = new Books();
            windWay = EAST;
            freshGoes = new int[CELLS];
            thickGoes = new int[CELLS];
        }

        /** Leaves out the books: those of a trial are kept, but never read. */
        void becomeLike(Bay other) {
            cells.becomeLike(other.cells);
            ships.becomeLike(other.ships);
            means.becomeLike(other.means);
            hour = other.hour;
            windWay = other.windWay;
            windStrength = other.windStrength;
        }

        static int tideOf(int hour) {
            int rest = hour % TIDE_HOURS;
            return rest <= HIGH_TIDE ? rest : TIDE_HOURS - rest;
        }

        void letPass(int hours) {
            for (int passed = 0; passed < hours; passed++) {
                hour++;
                leak();
                weather();
                drift();
                if (tideOf(hour) == HIGH_TIDE) {
                    giveBack();
                }
                skim();
                harmShores();
            }
        }

        private void leak() {
            int tide = tideOf(hour);
            for (int ship = 0; ship < ships.count; ship++) {
                int litres = ships.leakOf(ship, tide);
                ships.litres[ship] -= litres;
                cells.fresh[ships.cell[ship]] += litres;
                books.noteLeak(litres, hour);
            }
        }

        private void weather() {
            for (int cell = 0; cell < CELLS; cell++) {
                int air = cells.fresh[cell] / AIR_PART;
                cells.fresh[cell] -= air;
                books.air += air;
                int thickened = cells.fresh[cell] / THICK_PART;
                cells.fresh[cell] -= thickened;
                cells.thick[cell] += thickened;
                int sunk = cells.thick[cell] / SUNK_PART;
                cells.thick[cell] -= sunk;
                books.sunk += sunk;
            }
        }

        private void drift() {
            for (int cell = 0; cell < CELLS; cell++) {
                findWhatGoes(cell);
            }
            for (int cell = 0; cell < CELLS; cell++) {
                letGo(cell, Cells.beside(cell, windWay));
            }
        }

        private void findWhatGoes(int cell) {
            int room = roomBehind(cell);
            int fresh = blown(cells.fresh[cell], room);
            int thick = blown(cells.thick[cell], room - fresh);
            if (fresh + thick > 0) {
                int boom = means.boomOn(cell, windWay);
                if (boom != NONE && means.power[boom] >= windStrength) {
                    fresh = 0;
                    thick = 0;
                } else if (boom != NONE) {
                    means.tally[boom] = 1;
                }
            }
            freshGoes[cell] = fresh;
            thickGoes[cell] = thick;
        }

        /** What the WIND takes of so many litres, if there is so much room behind the border. */
        int blown(int litres, int room) {
            return Math.min(litres * windStrength / WIND_PARTS, room);
        }

        /** Room in the CELL to which the WIND goes; only a SHORE has a bound. */
        int roomBehind(int cell) {
            int to = Cells.beside(cell, windWay);
            return to == NONE || cells.isWater(to) ? ENDLESS_ROOM : cells.roomOf(to);
        }

        private void letGo(int cell, int to) {
            int fresh = freshGoes[cell];
            int thick = thickGoes[cell];
            cells.fresh[cell] -= fresh;
            cells.thick[cell] -= thick;
            if (to == NONE) {
                books.out += fresh + thick;
            } else if (cells.isWater(to)) {
                cells.fresh[to] += fresh;
                cells.thick[to] += thick;
            } else {
                cells.stranded[to] += fresh + thick;
            }
        }

        private void giveBack() {
            for (int cell = 0; cell < CELLS; cell++) {
                int to = cells.lowestWaterBeside(cell);
                if (to != NONE) {
                    int litres = cells.backOf(cell, cells.stranded[cell]);
                    cells.stranded[cell] -= litres;
                    cells.thick[to] += litres;
                }
            }
        }

        private void skim() {
            for (int mean = 0; mean < means.count; mean++) {
                if (means.sort[mean] == SKIMMER) {
                    int cell = means.cell[mean];
                    int fresh = means.freshTaken(mean, cells.fresh[cell]);
                    int thick = means.thickTaken(mean, fresh, cells.thick[cell]);
                    cells.fresh[cell] -= fresh;
                    cells.thick[cell] -= thick;
                    means.tally[mean] += fresh + thick;
                }
            }
        }

        private void harmShores() {
            for (int cell = 0; cell < CELLS; cell++) {
                cells.oilBirds(cell);
                if (cells.isTooDirty(cell)) {
                    cells.signatures[cell] = 0;
                }
            }
        }

        int disperse(int cell) {
            int litres = cells.fresh[cell];
            cells.fresh[cell] = 0;
            books.deep += litres;
            return litres;
        }

        int burn(int cell) {
            int litres = cells.fresh[cell] * 9 / 10;
            cells.fresh[cell] -= litres;
            books.burnt += litres;
            return litres;
        }

        boolean hasLeakedWithin(int hours) {
            return books.firstLeak != NONE && hour - books.firstLeak <= hours;
        }
    }

    /** What one CELL will have in the next HOUR, found from it and what lies beside it alone. */
    private static final class NextHour {
        private final Bay bay;
        /** What the CELL weighed last has before the oil drifts, and what of that goes. */
        private int freshHas;
        private int thickHas;
        private int freshGoes;
        private int thickGoes;

        NextHour(Bay bay) {
            this.bay = bay;
        }

        int floatingOf(int cell) {
            weigh(cell);
            int fresh = freshHas - freshGoes;
            int thick = thickHas - thickGoes;
            int from = waterAgainstWind(cell);
            if (from != NONE) {
                weigh(from);
                fresh += freshGoes;
                thick += thickGoes;
            }
            for (int way = EAST; way <= NORTH; way++) {
                thick += givenBackTo(cell, Cells.beside(cell, way));
            }
            return leftBySkimmers(cell, fresh, thick);
        }

        int strandedOf(int cell) {
            int litres = landedOn(cell);
            boolean givesBack = isHighTide() && bay.cells.lowestWaterBeside(cell) != NONE;
            return givesBack ? litres - bay.cells.backOf(cell, litres) : litres;
        }

        private boolean isHighTide() {
            return Bay.tideOf(bay.hour + 1) == HIGH_TIDE;
        }

        private void weigh(int cell) {
            int fresh = bay.cells.fresh[cell] + leaksInto(cell);
            fresh -= fresh / AIR_PART;
            int thickened = fresh / THICK_PART;
            int thick = bay.cells.thick[cell] + thickened;
            freshHas = fresh - thickened;
            thickHas = thick - thick / SUNK_PART;
            int boom = bay.means.boomOn(cell, bay.windWay);
            boolean isHeld = boom != NONE && bay.means.power[boom] >= bay.windStrength;
            int room = isHeld ? 0 : bay.roomBehind(cell);
            freshGoes = bay.blown(freshHas, room);
            thickGoes = bay.blown(thickHas, room - freshGoes);
        }

        private int leaksInto(int cell) {
            int tide = Bay.tideOf(bay.hour + 1);
            int litres = 0;
            for (int ship = 0; ship < bay.ships.count; ship++) {
                if (bay.ships.cell[ship] == cell) {
                    litres += bay.ships.leakOf(ship, tide);
                }
            }
            return litres;
        }

        /** The CELL of WATER from which the WIND comes to one, or NONE. */
        private int waterAgainstWind(int cell) {
            int from = Cells.beside(cell, Cells.opposite(bay.windWay));
            return from != NONE && bay.cells.isWater(from) ? from : NONE;
        }

        private int landedOn(int shore) {
            int litres = bay.cells.stranded[shore];
            int from = waterAgainstWind(shore);
            if (from != NONE) {
                weigh(from);
                litres += freshGoes + thickGoes;
            }
            return litres;
        }

        private int givenBackTo(int cell, int other) {
            if (other == NONE || bay.cells.isWater(other) || !isHighTide()
                    || bay.cells.lowestWaterBeside(other) != cell) {
                return 0;
            }
            return bay.cells.backOf(other, landedOn(other));
        }

        private int leftBySkimmers(int cell, int fresh, int thick) {
            int freshLeft = fresh;
            int thickLeft = thick;
            for (int mean = 0; mean < bay.means.count; mean++) {
                if (bay.means.isSkimmer(mean, cell)) {
                    int taken = bay.means.freshTaken(mean, freshLeft);
                    freshLeft -= taken;
                    thickLeft -= bay.means.thickTaken(mean, taken, thickLeft);
                }
            }
            return freshLeft + thickLeft;
        }
    }

    /** The rules against DISPERSING and BURNING, by their numbers. */
    private static final class Rules {
        private final Bay bay;

        Rules(Bay bay) {
            this.bay = bay;
        }

        private boolean isAgainst(int rule, int cell, int use) {
            boolean disperses = use == DISPERSING;
            Cells cells = bay.cells;
            switch (rule) {
                case 1: return disperses ? cells.depth[cell] < 10 : cells.fresh[cell] < 100;
                case 2: return !bay.hasLeakedWithin(disperses ? 72 : 24);
                case 3: return cells.thick[cell] > cells.fresh[cell];
                case 4: return disperses ? bay.windStrength < 2 : bay.windStrength > 5;
                default: return cells.isKindBeside(cell, disperses ? MARSH : ROCK, MARSH);
            }
        }

        int first(int cell, int use) {
            for (int rule = 1; rule <= RULES; rule++) {
                if (isAgainst(rule, cell, use)) {
                    return rule;
                }
            }
            return 0;
        }

        int last(int cell, int use) {
            for (int rule = RULES; rule >= 1; rule--) {
                if (isAgainst(rule, cell, use)) {
                    return rule;
                }
            }
            return 0;
        }

        int howMany(int cell, int use) {
            int many = 0;
            for (int rule = 1; rule <= RULES; rule++) {
                if (isAgainst(rule, cell, use)) {
                    many++;
                }
            }
            return many;
        }
    }

    /** Waste by sorts, and the SITES that have room for it. */
    private static final class Dump {
        int sites;
        final int[] waste;
        private final int[] room;
        private int delivered;

        Dump() {
            waste = new int[SORTS];
            room = new int[MOST_SITES * SORTS];
        }

        int addSite(int liquid, int solid) {
            int site = sites;
            room[site * SORTS + LIQUID] = liquid;
            room[site * SORTS + SOLID] = solid;
            sites++;
            return site;
        }

        int roomFor(int site, int sort) {
            return room[site * SORTS + sort];
        }

        void take(int site, int sort, int litres) {
            waste[sort] -= litres;
            room[site * SORTS + sort] -= litres;
            delivered += litres;
        }

        int allWaste() {
            return waste[LIQUID] + waste[SOLID] + delivered;
        }
    }

    /** The CLAIMS, and the LAYERS that pay them; cents times cents are beyond an int. */
    private static final class Payers {
        int count;
        int owner;
        int fund;
        private long all;
        private final int[] cents;

        Payers() {
            cents = new int[MOST_CLAIMS];
        }

        int add(int newCents) {
            int claim = count;
            cents[claim] = newCents;
            all += newCents;
            count++;
            return claim;
        }

        private long allGet() {
            return Math.min((long) owner + fund, all);
        }

        long getsOf(int claim) {
            return all == 0 ? 0 : cents[claim] * allGet() / all;
        }

        long ownersPartOf(long gets) {
            long allGet = allGet();
            return allGet == 0 ? 0 : gets * Math.min((long) owner, allGet) / allGet;
        }
    }
}
