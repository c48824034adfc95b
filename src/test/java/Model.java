import java.util.ArrayList;
import java.util.List;
import java.util.TreeSet;

/**
 * The document once more, written another way: objects for what has a number, an HOUR that is
 * replayed on a deep copy for ahead. Random runs compare Slickboom with it.
 */
final class Model {
    static final class Cell {
        int kind;
        int depth = 20;
        int fresh;
        int thick;
        int stranded;
        int birds;
        int oiled;
        TreeSet<Integer> signed = new TreeSet<>();
    }

    static final class Ship {
        int cell;
        int litres;
        int rate;
    }

    static final class Mean {
        int sort;
        int cell = -1;
        int way;
        int number;
        int store;
        int has;
        boolean broken;
        boolean taught;
        int worked;
        int last = -1000;
    }

    final List<Cell> cells = new ArrayList<>();
    final List<Ship> ships = new ArrayList<>();
    final List<Mean> means = new ArrayList<>();
    final List<int[]> sites = new ArrayList<>();
    final List<Integer> claims = new ArrayList<>();
    final int[] waste = new int[2];
    int made;
    int hour;
    int way;
    int strength;
    int leaked;
    int firstLeak = -1;
    int air;
    int sunk;
    int out;
    int deep;
    int burnt;
    int owner;
    int fund;

    Model() {
        for (int i = 0; i < 24; i++) {
            cells.add(new Cell());
        }
    }

    /** A copy of all that an HOUR needs. */
    private Model copy() {
        Model m = new Model();
        for (int i = 0; i < 24; i++) {
            Cell c = cells.get(i);
            Cell d = m.cells.get(i);
            d.kind = c.kind;
            d.fresh = c.fresh;
            d.thick = c.thick;
            d.stranded = c.stranded;
            d.birds = c.birds;
            d.oiled = c.oiled;
        }
        for (Ship s : ships) {
            Ship t = new Ship();
            t.cell = s.cell;
            t.litres = s.litres;
            t.rate = s.rate;
            m.ships.add(t);
        }
        for (Mean s : means) {
            Mean t = new Mean();
            t.sort = s.sort;
            t.cell = s.cell;
            t.way = s.way;
            t.number = s.number;
            t.store = s.store;
            t.has = s.has;
            t.broken = s.broken;
            m.means.add(t);
        }
        m.hour = hour;
        m.way = way;
        m.strength = strength;
        return m;
    }

    private static void index(boolean ok) {
        if (!ok) {
            throw new IndexOutOfBoundsException();
        }
    }

    private static void argument(boolean ok) {
        if (!ok) {
            throw new IllegalArgumentException();
        }
    }

    private static void state(boolean ok) {
        if (!ok) {
            throw new IllegalStateException();
        }
    }

    private static boolean in(int value, int least, int most) {
        return least <= value && value <= most;
    }

    private Cell cell(int cell) {
        index(in(cell, 0, 23));
        return cells.get(cell);
    }

    /** -1 for out of the bay. */
    static int to(int cell, int way) {
        int row = cell / 6 + (way == 2 ? 1 : way == 3 ? -1 : 0);
        int column = cell % 6 + (way == 0 ? 1 : way == 1 ? -1 : 0);
        return in(row, 0, 3) && in(column, 0, 5) ? 6 * row + column : -1;
    }

    private static int holds(Cell c) {
        return c.kind == 1 ? 200 : c.kind == 2 ? 500 : c.kind == 3 ? 1000 : 0;
    }

    /** A border by its place: twice the rows and columns, and one more on the way. */
    private static int border(int cell, int way) {
        int row = 2 * (cell / 6) + (way == 2 ? 1 : way == 3 ? -1 : 0);
        int column = 2 * (cell % 6) + (way == 0 ? 1 : way == 1 ? -1 : 0);
        return 100 * row + column;
    }

    private Mean boomOn(int cell, int way) {
        for (Mean m : means) {
            if (m.sort == 0 && !m.broken && border(m.cell, m.way) == border(cell, way)) {
                return m;
            }
        }
        return null;
    }

    int shore(int cell, int kind) {
        Cell c = cell(cell);
        argument(in(kind, 0, 3));
        state(hour == 0);
        for (Ship s : ships) {
            state(s.cell != cell);
        }
        for (Mean m : means) {
            state(m.sort != 1 || m.cell != cell);
        }
        int before = c.kind;
        Cell d = new Cell();
        d.kind = kind;
        cells.set(cell, d);
        return before;
    }

    int depth(int cell, int depth) {
        Cell c = cell(cell);
        argument(in(depth, 1, 99));
        state(c.kind == 0);
        int before = c.depth;
        c.depth = depth;
        return before;
    }

    int wind(int way, int strength) {
        argument(in(way, 0, 3) && in(strength, 0, 9));
        int before = 10 * this.way + this.strength;
        this.way = way;
        this.strength = strength;
        return before;
    }

    int ship(int cell, int litres) {
        Cell c = cell(cell);
        argument(in(litres, 0, 100000));
        state(c.kind == 0 && ships.size() < 4);
        Ship s = new Ship();
        s.cell = cell;
        s.litres = litres;
        ships.add(s);
        return ships.size() - 1;
    }

    int hole(int ship, int rate) {
        index(in(ship, 0, ships.size() - 1));
        argument(in(rate, 0, 99));
        int before = ships.get(ship).rate;
        ships.get(ship).rate = rate;
        return before;
    }

    int pump(int ship, int other, int litres) {
        index(in(ship, 0, ships.size() - 1) && in(other, 0, ships.size() - 1));
        argument(ship != other && in(litres, 1, 100000));
        Ship from = ships.get(ship);
        Ship to = ships.get(other);
        state(from.litres >= litres && to.litres + litres <= 100000);
        from.litres -= litres;
        to.litres += litres;
        return to.litres;
    }

    int shipHas(int ship) {
        index(in(ship, 0, ships.size() - 1));
        return ships.get(ship).litres;
    }

    int pass(int hours) {
        argument(in(hours, 1, 48));
        state(hour + hours <= 2000);
        for (int i = 0; i < hours; i++) {
            anHour();
        }
        return hour;
    }

    private void anHour() {
        hour++;
        int tide = Math.min(hour % 12, 12 - hour % 12);
        for (Ship s : ships) {
            int leak = Math.max(0, Math.min(s.litres, s.rate * (s.litres / 1000 - tide)));
            s.litres -= leak;
            cells.get(s.cell).fresh += leak;
            leaked += leak;
            if (leak >= 1 && firstLeak < 0) {
                firstLeak = hour;
            }
        }
        for (Cell c : cells) {
            int up = c.fresh / 20;
            air += up;
            c.fresh -= up;
            int more = c.fresh / 10;
            c.fresh -= more;
            c.thick += more;
            int down = c.thick / 50;
            c.thick -= down;
            sunk += down;
        }
        drift();
        if (tide == 6) {
            giveBack();
        }
        for (Mean m : means) {
            if (m.sort == 1) {
                Cell c = cells.get(m.cell);
                int fresh = Math.min(m.number, Math.min(c.fresh, m.store - m.has));
                c.fresh -= fresh;
                m.has += fresh;
                int thick = Math.min((m.number - fresh) / 2, Math.min(c.thick, m.store - m.has));
                c.thick -= thick;
                m.has += thick;
            }
        }
        for (Cell c : cells) {
            if (c.kind != 0 && c.stranded >= 100) {
                c.oiled = Math.min(c.birds, c.oiled + c.stranded / 100);
            }
            if (c.kind != 0 && c.stranded > holds(c) / 20) {
                c.signed.clear();
            }
        }
    }

    private void drift() {
        int[] moreFresh = new int[24];
        int[] moreThick = new int[24];
        int[] moreStranded = new int[24];
        for (int i = 0; i < 24; i++) {
            Cell c = cells.get(i);
            if (c.kind != 0) {
                continue;
            }
            int fresh = c.fresh * strength / 10;
            int thick = c.thick * strength / 10;
            int to = to(i, way);
            boolean strands = to >= 0 && cells.get(to).kind != 0;
            if (strands) {
                int room = holds(cells.get(to)) - cells.get(to).stranded;
                int all = Math.min(room, fresh + thick);
                fresh = Math.min(fresh, all);
                thick = all - fresh;
            }
            if (fresh + thick == 0) {
                continue;
            }
            Mean boom = boomOn(i, way);
            if (boom != null && boom.number >= strength) {
                continue;
            }
            if (boom != null) {
                boom.broken = true;
            }
            moreFresh[i] -= fresh;
            moreThick[i] -= thick;
            if (to < 0) {
                out += fresh + thick;
            } else if (strands) {
                moreStranded[to] += fresh + thick;
            } else {
                moreFresh[to] += fresh;
                moreThick[to] += thick;
            }
        }
        for (int i = 0; i < 24; i++) {
            cells.get(i).fresh += moreFresh[i];
            cells.get(i).thick += moreThick[i];
            cells.get(i).stranded += moreStranded[i];
        }
    }

    private void giveBack() {
        for (int i = 0; i < 24; i++) {
            Cell c = cells.get(i);
            int lowest = 24;
            for (int w = 0; w < 4; w++) {
                int to = to(i, w);
                if (to >= 0 && cells.get(to).kind == 0) {
                    lowest = Math.min(lowest, to);
                }
            }
            if (c.kind != 0 && lowest < 24) {
                int back = c.kind == 1 ? c.stranded / 5 : c.kind == 2 ? c.stranded / 10 : 0;
                c.stranded -= back;
                cells.get(lowest).thick += back;
            }
        }
    }

    int at(int cell, int what) {
        Cell c = cell(cell);
        argument(in(what, 0, 8));
        int signatures = 0;
        for (int who : c.signed) {
            signatures += who == 0 ? 1 : who == 1 ? 2 : 4;
        }
        int[] all = {c.fresh, c.thick, c.stranded, c.kind, c.kind == 0 ? c.depth : 0, c.birds, c.oiled,
            signatures, c.signed.size() >= 2 ? 1 : 0};
        return all[what];
    }

    private int add(int sort, int cell, int number) {
        Mean m = new Mean();
        m.sort = sort;
        m.cell = cell;
        m.number = number;
        means.add(m);
        return means.size() - 1;
    }

    int boom(int cell, int way, int strength) {
        cell(cell);
        argument(in(way, 0, 3) && in(strength, 1, 9));
        state(boomOn(cell, way) == null && means.size() < 20);
        int mean = add(0, cell, strength);
        means.get(mean).way = way;
        return mean;
    }

    int skimmer(int cell, int rate, int store) {
        Cell c = cell(cell);
        argument(in(rate, 1, 500) && in(store, 1, 5000));
        state(c.kind == 0 && means.size() < 20);
        int mean = add(1, cell, rate);
        means.get(mean).store = store;
        return mean;
    }

    int team(int people, boolean isTaught) {
        argument(in(people, 1, 50));
        state(means.size() < 20);
        int mean = add(2, -1, people);
        means.get(mean).taught = isTaught;
        return mean;
    }

    private Mean mean(int mean) {
        index(in(mean, 0, means.size() - 1));
        return means.get(mean);
    }

    int move(int mean, int cell) {
        Mean m = mean(mean);
        Cell c = cell(cell);
        state(m.sort == 1 && c.kind == 0);
        int before = m.cell;
        m.cell = cell;
        return before;
    }

    int carry(int mean) {
        Mean m = mean(mean);
        state(m.sort == 1);
        int has = m.has;
        m.has = 0;
        waste[0] += has;
        made += has;
        return has;
    }

    boolean teach(int mean) {
        Mean m = mean(mean);
        state(m.sort == 2);
        boolean before = m.taught;
        m.taught = true;
        return before;
    }

    int clean(int mean, int cell) {
        Mean m = mean(mean);
        Cell c = cell(cell);
        state(m.sort == 2 && c.kind != 0 && m.taught && m.last != hour);
        boolean rested = hour - m.last >= 12;
        state(rested || m.worked < 8);
        m.worked = rested ? 1 : m.worked + 1;
        m.last = hour;
        int litres = Math.min(c.stranded, 10 * m.number);
        c.stranded -= litres;
        waste[1] += litres;
        made += litres;
        return litres;
    }

    int meanIs(int mean, int what) {
        Mean m = mean(mean);
        argument(in(what, 0, 3));
        int last = m.sort == 0 ? (m.broken ? 1 : 0) : m.sort == 1 ? m.has : m.worked;
        return new int[] {m.sort, m.cell, m.number, last}[what];
    }

    private List<Integer> against(int cell, int use) {
        Cell c = cells.get(cell);
        List<Integer> rules = new ArrayList<>();
        boolean marsh = false;
        boolean shore = false;
        for (int w = 0; w < 4; w++) {
            int to = to(cell, w);
            marsh |= to >= 0 && cells.get(to).kind == 3;
            shore |= to >= 0 && cells.get(to).kind != 0;
        }
        boolean[] is = use == 0
            ? new boolean[] {c.depth < 10, firstLeak < 0 || hour - firstLeak > 72, c.thick > c.fresh, strength < 2, marsh}
            : new boolean[] {c.fresh < 100, firstLeak < 0 || hour - firstLeak > 24, c.thick > c.fresh, strength > 5, shore};
        for (int i = 0; i < 5; i++) {
            if (is[i]) {
                rules.add(i + 1);
            }
        }
        return rules;
    }

    int use(int cell, int use) {
        Cell c = cell(cell);
        argument(in(use, 0, 1));
        state(c.kind == 0 && against(cell, use).isEmpty());
        int litres = use == 0 ? c.fresh : c.fresh * 9 / 10;
        c.fresh -= litres;
        deep += use == 0 ? litres : 0;
        burnt += use == 0 ? 0 : litres;
        return litres;
    }

    int why(int cell, int use, int what) {
        Cell c = cell(cell);
        argument(in(use, 0, 1) && in(what, 0, 2));
        state(c.kind == 0);
        List<Integer> rules = against(cell, use);
        if (rules.isEmpty()) {
            return 0;
        }
        return what == 0 ? rules.get(0) : what == 1 ? rules.get(rules.size() - 1) : rules.size();
    }

    int birds(int cell, int many) {
        Cell c = cell(cell);
        argument(in(many, 1, 100));
        state(c.kind != 0 && c.birds + many <= 1000);
        c.birds += many;
        return c.birds;
    }

    int wash(int cell, int many) {
        Cell c = cell(cell);
        argument(in(many, 1, 100));
        state(c.kind != 0);
        int washed = Math.min(many, c.oiled);
        c.oiled -= washed;
        return washed;
    }

    boolean sign(int cell, int who) {
        Cell c = cell(cell);
        argument(in(who, 0, 2));
        state(c.kind != 0 && c.stranded <= holds(c) / 20 && !c.signed.contains(who));
        c.signed.add(who);
        return c.signed.size() >= 2;
    }

    int site(int liquid, int solid) {
        argument(in(liquid, 0, 100000) && in(solid, 0, 100000));
        state(sites.size() < 3);
        sites.add(new int[] {liquid, solid});
        return sites.size() - 1;
    }

    int deliver(int site, int sort, int litres) {
        index(in(site, 0, sites.size() - 1));
        argument(in(sort, 0, 1) && in(litres, 1, 100000));
        int[] room = sites.get(site);
        state(waste[sort] >= litres && room[sort] >= litres);
        waste[sort] -= litres;
        room[sort] -= litres;
        return room[sort];
    }

    int waste(int sort) {
        argument(in(sort, 0, 1));
        return waste[sort];
    }

    int claim(int cents) {
        argument(in(cents, 1, 1000000));
        state(claims.size() < 20);
        claims.add(cents);
        return claims.size() - 1;
    }

    int layers(int owner, int fund) {
        argument(in(owner, 0, 10000000) && in(fund, 0, 10000000));
        int before = this.owner + this.fund;
        this.owner = owner;
        this.fund = fund;
        return before;
    }

    int due(int claim, int what) {
        index(in(claim, 0, claims.size() - 1));
        argument(in(what, 0, 1));
        long all = 0;
        for (int cents : claims) {
            all += cents;
        }
        long get = Math.min(all, owner + fund);
        long gets = claims.get(claim) * get / all;
        long pays = get == 0 ? 0 : gets * Math.min(owner, get) / get;
        return (int) (what == 0 ? pays : gets - pays);
    }

    int ahead(int cell, int hours) {
        cell(cell);
        argument(in(hours, 1, 48));
        Model m = copy();
        for (int i = 0; i < hours; i++) {
            m.anHour();
        }
        Cell c = m.cells.get(cell);
        return c.fresh + c.thick + c.stranded;
    }

    int nextAnew(int cell) {
        return ahead(cell, 1);
    }

    int sum(int what) {
        argument(in(what, 0, 11));
        int has = 0;
        int floats = 0;
        int stranded = 0;
        int stores = 0;
        for (Ship s : ships) {
            has += s.litres;
        }
        for (Cell c : cells) {
            floats += c.fresh + c.thick;
            stranded += c.stranded;
        }
        for (Mean m : means) {
            stores += m.sort == 1 ? m.has : 0;
        }
        return new int[] {hour, leaked, has, floats, air, sunk, out, stranded, stores, deep, burnt, made}[what];
    }
}
