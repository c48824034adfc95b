import java.util.function.Supplier;

/** Promises 1 to 8 and 10: a new object, the bay, its SHIPS, and at. What an HOUR does is in HourTest. */
public final class BayTest {
    public static void main(String[] args) {
        newObject();
        twentyFourCells();
        firstNumbersOfCells();
        firstBirds();
        firstWind();
        firstLayers();
        noneIsThereYet();
        shoreMakes();
        shoreIsAnswered();
        shoreOfACell();
        shoreOfAKind();
        shoreAtTheHour0();
        shoreWhereAShipIs();
        shoreWhereASkimmerIs();
        depthIsTold();
        depthOfACell();
        depthInRange();
        depthOfAShore();
        windIsTold();
        windByAWay();
        windOfAStrength();
        shipIsThere();
        shipInACell();
        shipWithLitres();
        shipOnAShore();
        fourShips();
        holeIsTold();
        holeOfAShip();
        holeByARate();
        pumpTakesAndGives();
        pumpOfShips();
        pumpIntoAnother();
        pumpLitres();
        pumpWhatItHas();
        pumpWhatTheOtherCanHave();
        shipHas();
        shipHasOfAShip();
        atOil();
        atOilThatThereIsNot();
        atKind();
        atDepth();
        atBirds();
        atSignatures();
        atClean();
        atOfACell();
        atOfSomething();
        Check.end();
    }

    // ---- a new object

    /** Promise 1: "All WATER, at the HOUR 0.", "HOURS are numbered from 0." */
    private static void newObject() {
        Slickboom x = new Slickboom();
        for (int cell = 0; cell < 24; cell++) {
            Check.is("1: WATER, " + cell, x.at(cell, 3), Slickboom.WATER);
        }
        Check.is("1: the HOUR 0", x.sum(0), 0);
        Check.is("1: each object has HOURS of its own", new Slickboom().pass(1) + x.sum(0), 1);
    }

    /**
     * Promise 1: "The bay has the CELLS 0 to 23; the CELL is 6 times its ROW, 0 to 3, and its COLUMN, 0 to 5,
     * together."
     */
    private static void twentyFourCells() {
        Slickboom x = new Slickboom();
        for (int cell = 0; cell < 24; cell++) {
            Check.is("1: it is there, " + cell, x.nextAnew(cell), 0);
        }
        Refused.numbers("1: there is no CELL", 24, Slickboom::new, (y, cell) -> y.nextAnew(cell));
        // what blows EAST from the CELL 6 times the ROW and the COLUMN comes to the COLUMN 1 more
        for (int row = 0; row < 4; row++) {
            for (int column = 0; column < 5; column++) {
                Slickboom y = new Slickboom();
                Bays.leak(y, 6 * row + column, 20);
                y.wind(Slickboom.EAST, 5);
                y.pass(1);
                Check.is("1: ROW " + row + ", COLUMN " + column, y.at(6 * row + column + 1, 0), 9);
            }
        }
    }

    /** Promise 1: "Each is WATER with a depth, 20 at first" */
    private static void firstNumbersOfCells() {
        Slickboom x = new Slickboom();
        for (int cell = 0; cell < 24; cell++) {
            for (int what = 0; what <= 8; what++) {
                Check.is("1: at(" + cell + ", " + what + ")", x.at(cell, what), what == 4 ? 20 : 0);
            }
        }
        for (int what = 0; what <= 11; what++) {
            Check.is("1: sum " + what, x.sum(what), 0);
        }
        Check.is("1: no LIQUID waste", x.waste(Slickboom.LIQUID), 0);
        Check.is("1: no SOLID waste", x.waste(Slickboom.SOLID), 0);
    }

    /** Promise 1: "A SHORE has birds, 0 at first; some are OILED." */
    private static void firstBirds() {
        for (int kind = Slickboom.ROCK; kind <= Slickboom.MARSH; kind++) {
            Slickboom x = new Slickboom();
            x.shore(4, kind);
            Check.is("1: no birds", x.at(4, 5), 0);
            Check.is("1: none is OILED", x.at(4, 6), 0);
        }
    }

    /** Promise 1: "The WIND has a way, EAST at first, and a strength, 0 to 9, 0 at first." */
    private static void firstWind() {
        Check.is("1: EAST, strength 0", new Slickboom().wind(Slickboom.SOUTH, 3), 0);
        Slickboom x = new Slickboom();
        Bays.leak(x, 14, 350);
        x.pass(1);
        Check.is("1: nothing drifts", x.at(14, 0), 300);
    }

    /** Promise 1: "There are two LAYERS: what the owner pays at most, and the fund; both 0 at first." */
    private static void firstLayers() {
        Slickboom x = new Slickboom();
        x.claim(100);
        Check.is("1: the owner pays nothing", x.due(0, 0), 0);
        Check.is("1: the fund pays nothing", x.due(0, 1), 0);
        Check.is("1: both LAYERS are 0", x.layers(1, 2), 0);
    }

    /**
     * Promise 1: "SHIPS are numbered from 0", "Means are numbered from 0", "SITES are numbered from 0",
     * "CLAIMS are numbered from 0"
     */
    private static void noneIsThereYet() {
        Refused.numbers("1: no SHIP", 0, Slickboom::new, (y, ship) -> y.shipHas(ship));
        Refused.numbers("1: no mean", 0, Slickboom::new, (y, mean) -> y.meanIs(mean, 0));
        Refused.numbers("1: no SITE", 0, Slickboom::new, (y, site) -> y.deliver(site, Slickboom.LIQUID, 1));
        Refused.numbers("1: no CLAIM", 0, Slickboom::new, (y, claim) -> y.due(claim, 0));
        Check.is("1: the first SHIP", new Slickboom().ship(5, 5), 0);
        Check.is("1: the first mean", new Slickboom().team(5, true), 0);
        Check.is("1: the first SITE", new Slickboom().site(5, 5), 0);
        Check.is("1: the first CLAIM", new Slickboom().claim(5), 0);
    }

    // ---- shore

    /** Promise 2: "Makes a CELL a SHORE, or WATER of the depth 20, without birds and signatures." */
    private static void shoreMakes() {
        Slickboom x = new Slickboom();
        x.shore(9, Slickboom.SAND);
        Check.is("2: a SHORE", x.at(9, 3), Slickboom.SAND);
        Check.is("2: others are not", x.at(8, 3) + x.at(10, 3) + x.at(3, 3) + x.at(15, 3), 0);
        x.birds(9, 100);
        x.sign(9, 0);
        x.sign(9, 2);
        x.shore(9, Slickboom.ROCK);
        Check.is("2: another SHORE", x.at(9, 3), Slickboom.ROCK);
        Check.is("2: without birds", x.at(9, 5), 0);
        Check.is("2: without signatures", x.at(9, 7), 0);
        Check.is("2: not CLEAN", x.at(9, 8), 0);
        x.birds(9, 1);
        x.sign(9, 1);
        x.shore(9, Slickboom.ROCK);
        Check.is("2: the same SHORE without birds", x.at(9, 5), 0);
        Check.is("2: the same SHORE without signatures", x.at(9, 7), 0);
        x.birds(9, 3);
        x.sign(9, 0);
        x.sign(9, 1);
        x.shore(9, Slickboom.WATER);
        Check.is("2: WATER of the depth 20", x.at(9, 4), 20);
        Check.is("2: WATER without birds", x.at(9, 5), 0);
        Check.is("2: WATER without signatures", x.at(9, 7), 0);
        Check.is("2: WATER is not CLEAN", x.at(9, 8), 0);
        x.depth(9, 3);
        x.shore(9, Slickboom.WATER);
        Check.is("2: WATER again of the depth 20", x.at(9, 4), 20);
        x.shore(9, Slickboom.MARSH);
        Check.is("2: a SHORE again without birds", x.at(9, 5), 0);
        Check.is("2: a SHORE again without signatures", x.at(9, 7), 0);
        Check.is("2: can be signed anew", x.sign(9, 0), false);
    }

    /** Promise 2: "Returns what it was." */
    private static void shoreIsAnswered() {
        for (int kind = Slickboom.WATER; kind <= Slickboom.MARSH; kind++) {
            for (int next = Slickboom.WATER; next <= Slickboom.MARSH; next++) {
                Slickboom x = new Slickboom();
                Check.is("2: was WATER at first", x.shore(4, kind), Slickboom.WATER);
                Check.is("2: was " + kind + ", becomes " + next, x.shore(4, next), kind);
                Check.is("2: is " + next, x.at(4, 3), next);
            }
        }
    }

    /** Promise 2: "cell: 0 to 23", "Throws IndexOutOfBoundsException if there is no such CELL" */
    private static void shoreOfACell() {
        Slickboom x = new Slickboom();
        Check.is("2: the first CELL", x.shore(0, Slickboom.ROCK), 0);
        Check.is("2: the last CELL", x.shore(23, Slickboom.MARSH), 0);
        Check.is("2: the first is", x.at(0, 3), Slickboom.ROCK);
        Check.is("2: the last is", x.at(23, 3), Slickboom.MARSH);
        Refused.numbers("2: cell", 24, () -> { Slickboom y = new Slickboom(); y.shore(3, 2); return y; },
                (y, cell) -> y.shore(cell, Slickboom.ROCK));
    }

    /** Promise 2: "kind: WATER to MARSH", "Throws IllegalArgumentException if kind is out of range" */
    private static void shoreOfAKind() {
        Slickboom x = new Slickboom();
        x.shore(7, Slickboom.MARSH);
        Check.is("2: MARSH, the last kind", x.at(7, 3), 3);
        x.shore(7, Slickboom.WATER);
        Check.is("2: WATER, the first kind", x.at(7, 3), 0);
        Refused.ranges("2: kind", Slickboom.WATER, Slickboom.MARSH,
                () -> { Slickboom y = new Slickboom(); y.shore(7, 2); y.birds(7, 5); y.sign(7, 1); return y; },
                (y, kind) -> y.shore(7, kind));
    }

    /** Promise 2: "Throws IllegalStateException if the HOUR is not 0" */
    private static void shoreAtTheHour0() {
        Supplier<Slickboom> atHour1 = () -> {
            Slickboom x = new Slickboom();
            Check.is("2: at the HOUR 0", x.shore(5, Slickboom.ROCK), Slickboom.WATER);
            x.birds(5, 5);
            x.sign(5, 1);
            x.pass(1);
            return x;
        };
        Refused.state("2: at the HOUR 1", atHour1, x -> x.shore(10, Slickboom.ROCK));
        Refused.state("2: to the same at the HOUR 1", atHour1, x -> x.shore(5, Slickboom.ROCK));
        Refused.state("2: to WATER at the HOUR 1", atHour1, x -> x.shore(5, Slickboom.WATER));
        Refused.state("2: at the HOUR 2000", Bays::late, x -> x.shore(10, Slickboom.ROCK));
    }

    /** Promise 2: "or a SHIP or a SKIMMER is there" */
    private static void shoreWhereAShipIs() {
        Supplier<Slickboom> withShips = () -> {
            Slickboom x = new Slickboom();
            x.ship(3, 0);
            x.ship(4, 100);
            x.ship(10, 0);
            x.ship(23, 100000);
            return x;
        };
        for (int cell : new int[] {3, 4, 10, 23}) {
            Refused.state("2: a SHIP is in " + cell, withShips, x -> x.shore(cell, Slickboom.ROCK));
            Refused.state("2: to WATER, a SHIP is in " + cell, withShips, x -> x.shore(cell, Slickboom.WATER));
        }
        Slickboom x = withShips.get();
        for (int cell : new int[] {0, 2, 5, 9, 11, 16, 22}) {
            Check.is("2: no SHIP is in " + cell, x.shore(cell, Slickboom.ROCK), Slickboom.WATER);
        }
    }

    /** Promise 2: "a SHIP or a SKIMMER is there" */
    private static void shoreWhereASkimmerIs() {
        Supplier<Slickboom> withMeans = () -> {
            Slickboom x = new Slickboom();
            x.boom(6, Slickboom.EAST, 3);
            x.team(4, true);
            x.skimmer(8, 1, 1);
            x.skimmer(9, 1, 1);
            x.move(3, 20);
            return x;
        };
        Refused.state("2: a SKIMMER is there", withMeans, x -> x.shore(8, Slickboom.SAND));
        Refused.state("2: to WATER, a SKIMMER is there", withMeans, x -> x.shore(8, Slickboom.WATER));
        Refused.state("2: a SKIMMER was sent there", withMeans, x -> x.shore(20, Slickboom.SAND));
        Refused.state("2: the first mean is there", () -> {
            Slickboom x = new Slickboom();
            x.skimmer(0, 1, 1);
            return x;
        }, x -> x.shore(0, Slickboom.SAND));
        Refused.state("2: the last of 20 means is there", () -> twentyMeans(Slickboom.SKIMMER), x -> x.shore(9, 1));
        Check.is("2: none of 20 means is", twentyMeans(Slickboom.TEAM).shore(9, Slickboom.ROCK), Slickboom.WATER);
        Check.is("2: nor there", twentyMeans(Slickboom.SKIMMER).shore(10, Slickboom.ROCK), Slickboom.WATER);
        Slickboom x = withMeans.get();
        Check.is("2: from here it was sent away", x.shore(9, Slickboom.SAND), 0);
        Check.is("2: a BOOM is no matter", x.shore(6, Slickboom.SAND), 0);
        Check.is("2: nor on its other side", x.shore(7, Slickboom.SAND), 0);
        Check.is("2: nor a TEAM", x.shore(0, Slickboom.SAND), 0);
        Check.is("2: the CELL 1 has no SHIP 0", x.shore(1, Slickboom.SAND), 0);
    }

    /** The last of them is in the CELL 9, if it is a SKIMMER. */
    private static Slickboom twentyMeans(int last) {
        Slickboom x = new Slickboom();
        for (int i = 0; i < 19; i++) {
            x.skimmer(0, 1, 1);
        }
        Check.is("2: the last of 20", last == Slickboom.SKIMMER ? x.skimmer(9, 1, 1) : x.team(1, true), 19);
        return x;
    }

    // ---- depth

    /** Promise 3: "Tells a depth.", "Returns the one before." */
    private static void depthIsTold() {
        Slickboom x = new Slickboom();
        Check.is("3: 20 before", x.depth(7, 33), 20);
        Check.is("3: 33 before", x.depth(7, 33), 33);
        Check.is("3: and still", x.depth(7, 9), 33);
        Check.is("3: is 9", x.at(7, 4), 9);
        Check.is("3: others are 20", x.at(6, 4) + x.at(8, 4) + x.at(1, 4) + x.at(13, 4), 80);
        x.pass(7);
        Check.is("3: later, too", x.depth(7, 10), 9);
    }

    /** Promise 3: "cell: 0 to 23", "Throws IndexOutOfBoundsException if there is no such CELL" */
    private static void depthOfACell() {
        Slickboom x = new Slickboom();
        Check.is("3: the first CELL", x.depth(0, 5), 20);
        Check.is("3: the last CELL", x.depth(23, 6), 20);
        Check.is("3: both are told", 10 * x.at(0, 4) + x.at(23, 4), 56);
        Refused.numbers("3: cell", 24, Bays::busy, (y, cell) -> y.depth(cell, 5));
    }

    /** Promise 3: "depth: 1 to 99", "Throws IllegalArgumentException if depth is out of range" */
    private static void depthInRange() {
        Slickboom x = new Slickboom();
        Check.is("3: the least", x.depth(7, 1), 20);
        Check.is("3: the most", x.depth(7, 99), 1);
        Check.is("3: is 99", x.at(7, 4), 99);
        Refused.ranges("3: depth", 1, 99, Bays::busy, (y, depth) -> y.depth(12, depth));
    }

    /** Promise 3: "Throws IllegalStateException if it is a SHORE" */
    private static void depthOfAShore() {
        for (int kind = Slickboom.ROCK; kind <= Slickboom.MARSH; kind++) {
            int of = kind;
            Refused.state("3: a SHORE of the kind " + kind,
                    () -> { Slickboom y = new Slickboom(); y.shore(6, of); return y; }, y -> y.depth(6, 20));
        }
        Slickboom x = new Slickboom();
        x.shore(6, Slickboom.ROCK);
        x.shore(6, Slickboom.WATER);
        Check.is("3: no SHORE any more", x.depth(6, 20), 20);
    }

    // ---- wind

    /** Promise 4: "Tells the WIND, from now on.", "Returns 10 times the way, and the strength, together, before." */
    private static void windIsTold() {
        Slickboom x = new Slickboom();
        int before = 0;
        for (int way = Slickboom.EAST; way <= Slickboom.NORTH; way++) {
            for (int strength = 0; strength <= 9; strength++) {
                Check.is("4: before " + way + ", " + strength, x.wind(way, strength), before);
                before = 10 * way + strength;
            }
        }
        // of two that are told between HOURS the last one counts, and it counts for all that follow
        Slickboom y = new Slickboom();
        Bays.leak(y, 14, 20);
        y.wind(Slickboom.WEST, 9);
        y.wind(Slickboom.SOUTH, 5);
        y.pass(1);
        Check.is("4: nothing to the WEST", y.at(13, 0), 0);
        Check.is("4: 9 of 18 to the SOUTH", y.at(20, 0), 9);
        Bays.stop(y);
        y.pass(1);
        Check.is("4: the next HOUR, too: 4 of 9 are OUT", y.sum(6), 4);
        y.wind(Slickboom.WEST, 0);
        y.pass(1);
        Check.is("4: no more", y.sum(6), 4);
    }

    /** Promise 4: "way: EAST to NORTH", "Throws IllegalArgumentException if an argument is out of range" */
    private static void windByAWay() {
        Slickboom x = new Slickboom();
        Check.is("4: NORTH, the last way", x.wind(Slickboom.NORTH, 1), 0);
        Check.is("4: EAST, the first way", x.wind(Slickboom.EAST, 2), 31);
        Check.is("4: EAST before", x.wind(Slickboom.WEST, 2), 2);
        Refused.ranges("4: way", Slickboom.EAST, Slickboom.NORTH, Bays::busy, (y, way) -> y.wind(way, 3));
    }

    /** Promise 4: "strength: 0 to 9", "Throws IllegalArgumentException if an argument is out of range" */
    private static void windOfAStrength() {
        Slickboom x = new Slickboom();
        Check.is("4: the most", x.wind(Slickboom.WEST, 9), 0);
        Check.is("4: the least", x.wind(Slickboom.WEST, 0), 19);
        Check.is("4: was the least", x.wind(Slickboom.WEST, 1), 10);
        Refused.ranges("4: strength", 0, 9, Bays::busy, (y, strength) -> y.wind(Slickboom.SOUTH, strength));
    }

    // ---- ship

    /**
     * Promise 5: "Lets a SHIP be in a CELL.", "Returns its number.", "SHIPS are numbered from 0", "each in a CELL
     * that is WATER, with some litres of oil, and a rate, 0 at first."
     */
    private static void shipIsThere() {
        Slickboom x = new Slickboom();
        Check.is("5: the first", x.ship(3, 5000), 0);
        Check.is("5: the second", x.ship(3, 7000), 1);
        x.pass(1);
        Check.is("5: the third, later", x.ship(20, 4000), 2);
        Check.is("5: its litres", x.shipHas(2), 4000);
        x.pass(11);
        Check.is("5: the rate 0 leaks nothing", x.sum(1), 0);
        Check.is("5: 0 at first", x.hole(2, 10), 0);
        x.pass(12);
        Check.is("5: its oil is in its CELL", x.at(20, 0) + x.at(20, 1) > 0, true);
        Check.is("5: and in no other", x.sum(3), x.at(20, 0) + x.at(20, 1));
    }

    /** Promise 5: "cell: 0 to 23", "Throws IndexOutOfBoundsException if there is no such CELL" */
    private static void shipInACell() {
        Slickboom x = new Slickboom();
        Check.is("5: in the first CELL", x.ship(0, 2000), 0);
        Check.is("5: in the last CELL", x.ship(23, 2000), 1);
        x.hole(0, 5);
        x.hole(1, 6);
        x.pass(1);
        Check.is("5: leaks in the first CELL", x.at(0, 0), 5);
        Check.is("5: leaks in the last CELL", x.at(23, 0), 6);
        Refused.numbers("5: cell", 24, Bays::busy, (y, cell) -> y.ship(cell, 5));
    }

    /** Promise 5: "litres: 0 to 100000", "Throws IllegalArgumentException if litres is out of range" */
    private static void shipWithLitres() {
        Slickboom x = new Slickboom();
        x.ship(1, 0);
        x.ship(1, 100000);
        Check.is("5: the least", x.shipHas(0), 0);
        Check.is("5: the most", x.shipHas(1), 100000);
        Refused.ranges("5: litres", 0, 100000, Bays::busy, (y, litres) -> y.ship(1, litres));
    }

    /** Promise 5: "Throws IllegalStateException if it is a SHORE" */
    private static void shipOnAShore() {
        for (int cell : new int[] {5, 8, 22}) {
            Refused.state("5: a SHORE, " + cell, Bays::busy, x -> x.ship(cell, 5));
        }
        Check.is("5: beside them", Bays.busy().ship(9, 5), 3);
    }

    /** Promise 5: "or there are 4", "SHIPS are numbered from 0, up to 4" */
    private static void fourShips() {
        Supplier<Slickboom> withThree = () -> {
            Slickboom x = new Slickboom();
            x.ship(1, 10);
            x.ship(2, 20);
            x.ship(3, 30);
            return x;
        };
        Slickboom x = withThree.get();
        Check.is("5: the fourth", x.ship(3, 40), 3);
        Check.is("5: all four are", x.sum(2), 100);
        Refused.state("5: there are 4", () -> { Slickboom y = withThree.get(); y.ship(3, 0); return y; },
                y -> y.ship(3, 50));
        Refused.state("5: there are 4, and all else", Bays::full, y -> y.ship(2, 0));
    }

    // ---- hole

    /** Promise 6: "Tells the rate by which a SHIP leaks.", "Returns the one before." */
    private static void holeIsTold() {
        Slickboom x = new Slickboom();
        x.ship(2, 11000);
        x.ship(3, 11000);
        Check.is("6: 0 before", x.hole(1, 7), 0);
        Check.is("6: 7 before", x.hole(1, 9), 7);
        Check.is("6: the other one's is 0", x.hole(0, 0), 0);
        x.pass(1);
        Check.is("6: leaks by the last rate", x.shipHas(1), 11000 - 9 * 10);
        Check.is("6: the other one does not", x.shipHas(0), 11000);
        Check.is("6: 9 before, later, too", x.hole(1, 0), 9);
        x.pass(1);
        Check.is("6: leaks no more", x.shipHas(1), 10910);
    }

    /** Promise 6: "ship: a SHIP", "Throws IndexOutOfBoundsException if there is no such SHIP" */
    private static void holeOfAShip() {
        Slickboom x = Bays.full();
        Check.is("6: the first", x.hole(0, 1), 20);
        Check.is("6: the last", x.hole(3, 2), 20);
        Refused.numbers("6: SHIP of 0,", 0, Slickboom::new, (y, ship) -> y.hole(ship, 5));
        Refused.numbers("6: SHIP of 3,", 3, Bays::busy, (y, ship) -> y.hole(ship, 5));
        Refused.numbers("6: SHIP of 4,", 4, Bays::full, (y, ship) -> y.hole(ship, 5));
    }

    /** Promise 6: "rate: 0 to 99", "Throws IllegalArgumentException if rate is out of range" */
    private static void holeByARate() {
        Slickboom x = new Slickboom();
        x.ship(2, 3000);
        Check.is("6: the most", x.hole(0, 99), 0);
        x.pass(1);
        Check.is("6: 99 times 2", x.shipHas(0), 2802);
        Check.is("6: the least", x.hole(0, 0), 99);
        Check.is("6: was the least", x.hole(0, 1), 0);
        Refused.ranges("6: rate", 0, 99, Bays::busy, (y, rate) -> y.hole(1, rate));
    }

    // ---- pump

    private static Supplier<Slickboom> ships(int... litres) {
        return () -> {
            Slickboom x = new Slickboom();
            for (int ship = 0; ship < litres.length; ship++) {
                x.ship(5 * ship, litres[ship]);
            }
            return x;
        };
    }

    /** Promise 7: "Pumps oil from a SHIP into another one.", "Returns how many the other one has then." */
    private static void pumpTakesAndGives() {
        Slickboom x = ships(1000, 50, 7).get();
        Check.is("7: what the other one has", x.pump(0, 1, 300), 350);
        Check.is("7: what is left", x.shipHas(0), 700);
        Check.is("7: what came", x.shipHas(1), 350);
        Check.is("7: a third one is no matter", x.shipHas(2), 7);
        Check.is("7: back", x.pump(1, 0, 50), 750);
        Check.is("7: from the last one", x.pump(2, 1, 7), 307);
        Check.is("7: all is there", x.sum(2), 1057);
        Check.is("7: nothing leaked", x.sum(1), 0);
    }

    /**
     * Promise 7: "ship: a SHIP", "other: another one", "Throws IndexOutOfBoundsException if there is no such SHIP, of
     * either"
     */
    private static void pumpOfShips() {
        Supplier<Slickboom> four = ships(10, 20, 30, 40);
        Check.is("7: from the first into the last", four.get().pump(0, 3, 10), 50);
        Check.is("7: from the last into the first", four.get().pump(3, 0, 40), 50);
        Refused.numbers("7: SHIP of 4,", 4, four, (y, ship) -> y.pump(ship, 1, 1));
        Refused.numbers("7: other of 4,", 4, four, (y, other) -> y.pump(1, other, 1));
        Refused.numbers("7: SHIP of 1,", 1, ships(10), (y, ship) -> y.pump(ship, 0, 1));
        Refused.numbers("7: other of 1,", 1, ships(10), (y, other) -> y.pump(0, other, 1));
        Refused.numbers("7: both of none,", 0, Slickboom::new, (y, ship) -> y.pump(ship, ship, 1));
    }

    /** Promise 7: "Throws IllegalArgumentException if both are the same" */
    private static void pumpIntoAnother() {
        for (int ship = 0; ship < 3; ship++) {
            int same = ship;
            Refused.range("7: both are " + ship, ships(500, 60000, 0), x -> x.pump(same, same, 1));
        }
        Check.is("7: both in one CELL are two", twoInOneCell().pump(0, 1, 5), 12);
    }

    private static Slickboom twoInOneCell() {
        Slickboom x = new Slickboom();
        x.ship(9, 7);
        x.ship(9, 7);
        return x;
    }

    /** Promise 7: "litres: 1 to 100000", "or litres is out of range" */
    private static void pumpLitres() {
        Check.is("7: the least", ships(5, 6).get().pump(0, 1, 1), 7);
        Check.is("7: the most", ships(100000, 0).get().pump(0, 1, 100000), 100000);
        Refused.ranges("7: litres", 1, 100000, ships(100000, 100000), (y, litres) -> y.pump(0, 1, litres));
        Refused.ranges("7: litres into an empty one", 1, 100000, ships(100000, 0), (y, litres) -> y.pump(0, 1, litres));
    }

    /** Promise 7: "Throws IllegalStateException if it has fewer" */
    private static void pumpWhatItHas() {
        Slickboom x = ships(700, 0).get();
        Check.is("7: all that it has", x.pump(0, 1, 700), 700);
        Check.is("7: it is empty", x.shipHas(0), 0);
        Refused.state("7: one litre more than it has", ships(700, 0), y -> y.pump(0, 1, 701));
        Refused.state("7: it has none", ships(0, 5), y -> y.pump(0, 1, 1));
        Refused.state("7: the most, it has one litre fewer", ships(99999, 0), y -> y.pump(0, 1, 100000));
    }

    /** Promise 7: "or the other one would have more than 100000" */
    private static void pumpWhatTheOtherCanHave() {
        Slickboom x = ships(700, 99500).get();
        Check.is("7: just 100000", x.pump(0, 1, 500), 100000);
        Check.is("7: the rest stays", x.shipHas(0), 200);
        Refused.state("7: 100001", ships(700, 99500), y -> y.pump(0, 1, 501));
        Refused.state("7: one litre into a full one", ships(700, 100000), y -> y.pump(0, 1, 1));
        Refused.state("7: all into a full one", ships(100000, 100000), y -> y.pump(0, 1, 100000));
    }

    // ---- shipHas

    /** Promise 8: "Returns how many litres a SHIP has.", "Returns how many." */
    private static void shipHas() {
        Slickboom x = ships(2500, 100000, 0).get();
        Check.is("8: the first", x.shipHas(0), 2500);
        Check.is("8: the second", x.shipHas(1), 100000);
        Check.is("8: an empty one", x.shipHas(2), 0);
        x.hole(0, 4);
        x.pass(1);
        Check.is("8: less what leaked", x.shipHas(0), 2496);
        Twins.same("8: asking changes nothing", Bays::busy, y -> y.shipHas(1));
    }

    /** Promise 8: "ship: a SHIP", "Throws IndexOutOfBoundsException if there is no such SHIP" */
    private static void shipHasOfAShip() {
        Check.is("8: the last of 4", Bays.full().shipHas(3), 27000);
        Refused.numbers("8: SHIP of 0,", 0, Slickboom::new, (y, ship) -> y.shipHas(ship));
        Refused.numbers("8: SHIP of 3,", 3, Bays::busy, (y, ship) -> y.shipHas(ship));
        Refused.numbers("8: SHIP of 4,", 4, Bays::full, (y, ship) -> y.shipHas(ship));
    }

    // ---- at

    /**
     * Promise 10: "Returns something of a CELL.", "what: 0 FRESH, 1 THICK, 2 STRANDED litres", "Returns the number.",
     * "FRESH and THICK oil floats on WATER; a SHORE has STRANDED oil."
     */
    private static void atOil() {
        // 350 leak: 17 AIR, 33 thicken: 300 and 33, of which 180 and 19 go to the SHORE 8
        Slickboom x = new Slickboom();
        x.shore(8, Slickboom.ROCK);
        Bays.leak(x, 7, 350);
        x.wind(Slickboom.EAST, 6);
        x.pass(1);
        Check.is("10: FRESH", x.at(7, 0), 120);
        Check.is("10: THICK", x.at(7, 1), 14);
        Check.is("10: STRANDED", x.at(8, 2), 199);
        Twins.same("10: asking changes nothing", Bays::busy, y -> y.at(8, 2));
    }

    /** Promise 10: "0 where there is none" */
    private static void atOilThatThereIsNot() {
        Slickboom x = Bays.blown(Slickboom.ROCK, 200);
        Check.is("10: WATER has no STRANDED oil", x.at(7, 2), 0);
        Check.is("10: a SHORE has no FRESH oil", x.at(8, 0), 0);
        Check.is("10: a SHORE has no THICK oil", x.at(8, 1), 0);
        Check.is("10: WATER without oil", x.at(9, 0) + x.at(9, 1) + x.at(9, 2), 0);
    }

    /** Promise 10: "3 WATER to MARSH" */
    private static void atKind() {
        for (int kind = Slickboom.WATER; kind <= Slickboom.MARSH; kind++) {
            Slickboom x = new Slickboom();
            x.shore(17, kind);
            Check.is("10: the kind", x.at(17, 3), kind);
        }
    }

    /** Promise 10: "4 its depth, 0 of a SHORE" */
    private static void atDepth() {
        Slickboom x = new Slickboom();
        x.depth(17, 99);
        Check.is("10: the depth", x.at(17, 4), 99);
        for (int kind = Slickboom.ROCK; kind <= Slickboom.MARSH; kind++) {
            x.shore(17, kind);
            Check.is("10: 0 of a SHORE", x.at(17, 4), 0);
        }
    }

    /** Promise 10: "5 birds, OILED ones with them; 6 OILED ones" */
    private static void atBirds() {
        Slickboom x = Bays.blown(Slickboom.SAND, 500, y -> y.birds(8, 12));
        Check.is("10: birds with 5 OILED ones", x.at(8, 5), 12);
        Check.is("10: OILED ones", x.at(8, 6), 5);
        Check.is("10: WATER has none", x.at(7, 5) + x.at(7, 6), 0);
    }

    /** Promise 10: "7 its signatures, as the sum of 2 to the power of each who signed" */
    private static void atSignatures() {
        for (int signed = 0; signed < 8; signed++) {
            Slickboom x = new Slickboom();
            x.shore(2, Slickboom.SAND);
            for (int who = 2; who >= 0; who--) {
                if ((signed >> who) % 2 == 1) {
                    x.sign(2, who);
                }
            }
            Check.is("10: signatures", x.at(2, 7), signed);
        }
    }

    /** Promise 10: "8 whether it is CLEAN, 1 or 0", "with two signatures it is CLEAN." */
    private static void atClean() {
        int[] clean = {0, 0, 0, 1, 0, 1, 1, 1};
        for (int signed = 0; signed < 8; signed++) {
            Slickboom x = new Slickboom();
            x.shore(2, Slickboom.SAND);
            for (int who = 0; who < 3; who++) {
                if ((signed >> who) % 2 == 1) {
                    x.sign(2, who);
                }
            }
            Check.is("10: CLEAN by the signatures " + signed, x.at(2, 8), clean[signed]);
        }
        Check.is("10: WATER is not", new Slickboom().at(2, 8), 0);
    }

    /** Promise 10: "cell: 0 to 23", "Throws IndexOutOfBoundsException if there is no such CELL" */
    private static void atOfACell() {
        Slickboom x = new Slickboom();
        x.depth(0, 3);
        x.depth(23, 4);
        Check.is("10: the first CELL", x.at(0, 4), 3);
        Check.is("10: the last CELL", x.at(23, 4), 4);
        for (int what = 0; what <= 8; what++) {
            int of = what;
            Refused.numbers("10: " + what + " of the cell", 24, Slickboom::new, (y, cell) -> y.at(cell, of));
        }
    }

    /** Promise 10: "Throws IllegalArgumentException if what is out of range" */
    private static void atOfSomething() {
        Slickboom x = Bays.busy();
        Check.is("10: 0, the first", x.at(18, 0) > 0, true);
        Check.is("10: 8, the last", x.at(5, 8), 1);
        Refused.ranges("10: what", 0, 8, Bays::busy, (y, what) -> y.at(5, what));
        Refused.ranges("10: what of WATER", 0, 8, Bays::busy, (y, what) -> y.at(18, what));
    }
}
