import java.util.function.Supplier;

/** Promises 11 to 18: BOOMS, SKIMMERS, TEAMS. What they do in an HOUR is in HourTest. */
public final class MeansTest {
    public static void main(String[] args) {
        twentyMeans();
        boomAmong20();
        skimmerAmong20();
        teamAmong20();
        boomIsLaid();
        boomOfACell();
        boomByAWay();
        boomOfAStrength();
        boomOnTheSameBorder();
        boomOnEachBorder();
        boomOnAnotherBorder();
        boomWhereOneIsBroken();
        skimmerIsSent();
        skimmerInACell();
        skimmerByARate();
        skimmerWithAStore();
        skimmerOnAShore();
        teamIsCalled();
        teamOfPeople();
        moveToAnother();
        moveOfAMean();
        moveToACell();
        moveNoSkimmer();
        moveToAShore();
        carryTakesAway();
        carryOfAMean();
        carryNoSkimmer();
        teachATeam();
        teachOfAMean();
        teachNoTeam();
        cleanByPeople();
        cleanOfAMean();
        cleanOfACell();
        cleanNoTeam();
        cleanNoShore();
        cleanIfItIsTaught();
        cleanOnceBetweenTwoHours();
        cleanEightTimes();
        cleanWhenItHasRested();
        meanIsOfASort();
        meanIsInACell();
        meanIsSoStrong();
        meanIsBroken();
        meanIsFull();
        meanIsSoOftenAtWork();
        meanIsOfAMean();
        meanIsSomething();
        Check.end();
    }

    private static Supplier<Slickboom> means(int many) {
        return () -> {
            Slickboom x = new Slickboom();
            x.shore(23, Slickboom.ROCK);
            for (int i = 0; i < many; i++) {
                int mean = i % 3 == 0 ? x.team(1, true) : i % 3 == 1 ? x.skimmer(0, 1, 1) : x.boom(i, Slickboom.EAST, 1);
                Check.is("11 to 13: the number", mean, i);
            }
            return x;
        };
    }

    /** Promise 18: "Means are numbered from 0, up to 20: BOOMS, SKIMMERS and TEAMS." */
    private static void twentyMeans() {
        // one count for all sorts, and each HOUR and each question does with 20
        Slickboom x = means(20).get();
        for (int mean = 0; mean < 20; mean++) {
            int[] sorts = {Slickboom.TEAM, Slickboom.SKIMMER, Slickboom.BOOM};
            Check.is("18: the sort of " + mean, x.meanIs(mean, 0), sorts[mean % 3]);
        }
        Refused.numbers("18: a mean of 20,", 20, means(20), (y, mean) -> y.meanIs(mean, 0));
        Bays.leak(x, 0, 350);
        x.wind(Slickboom.EAST, 9);
        Check.is("9: 20 means", x.pass(3), 3);
        Check.is("31: 20 means", x.nextAnew(1), x.ahead(1, 1));
    }

    /** Promise 11: "or there are 20 means", "Returns its number." */
    private static void boomAmong20() {
        Check.is("11: the first", means(0).get().boom(22, Slickboom.NORTH, 5), 0);
        Check.is("11: the last", means(19).get().boom(22, Slickboom.NORTH, 5), 19);
        Refused.state("11: there are 20", means(20), x -> x.boom(22, Slickboom.NORTH, 5));
        // BROKEN ones are means still
        Refused.state("11: there are 20 with a BROKEN one", () -> {
            Slickboom y = withBrokenBoom();
            for (int i = 1; i < 20; i++) {
                y.team(1, true);
            }
            return y;
        }, y -> y.boom(8, Slickboom.EAST, 1));
    }

    /** Promise 12: "or there are 20 means", "Returns its number." */
    private static void skimmerAmong20() {
        Check.is("12: the first", means(0).get().skimmer(22, 5, 5), 0);
        Check.is("12: the last", means(19).get().skimmer(22, 5, 5), 19);
        Refused.state("12: there are 20", means(20), x -> x.skimmer(22, 5, 5));
    }

    /** Promise 13: "Throws IllegalStateException if there are 20 means", "Returns its number." */
    private static void teamAmong20() {
        Check.is("13: the first", means(0).get().team(5, false), 0);
        Check.is("13: the last", means(19).get().team(5, false), 19);
        Refused.state("13: there are 20", means(20), x -> x.team(5, false));
        Refused.state("13: there are 20, one that is taught", means(20), x -> x.team(5, true));
    }

    // ---- boom

    /** Promise 11: "Lays a BOOM.", "it has a strength." */
    private static void boomIsLaid() {
        Slickboom x = new Slickboom();
        x.team(1, true);
        Check.is("11: its number", x.boom(9, Slickboom.WEST, 4), 1);
        Check.is("11: a BOOM", x.meanIs(1, 0), Slickboom.BOOM);
        Check.is("11: its CELL", x.meanIs(1, 1), 9);
        Check.is("11: its strength", x.meanIs(1, 2), 4);
        Check.is("11: it is not BROKEN", x.meanIs(1, 3), 0);
    }

    /** Promise 11: "cell: 0 to 23", "Throws IndexOutOfBoundsException if there is no such CELL" */
    private static void boomOfACell() {
        Slickboom x = new Slickboom();
        Check.is("11: the first CELL", x.boom(0, Slickboom.EAST, 1), 0);
        Check.is("11: the last CELL", x.boom(23, Slickboom.WEST, 1), 1);
        Check.is("11: by a SHORE, too", Bays.busy().boom(5, Slickboom.NORTH, 1), 8);
        Refused.numbers("11: cell", 24, Bays::busy, (y, cell) -> y.boom(cell, Slickboom.NORTH, 1));
    }

    /**
     * Promise 11: "way: EAST to NORTH, also out of the bay", "Throws IllegalArgumentException if way or strength is
     * out of range"
     */
    private static void boomByAWay() {
        int[] ends = {5, 0, 18, 0};
        for (int way = Slickboom.EAST; way <= Slickboom.NORTH; way++) {
            Slickboom x = new Slickboom();
            Check.is("11: by each way", x.boom(8, way, 1), 0);
            Check.is("11: out of the bay", x.boom(ends[way], way, 1), 1);
            Check.is("11: its CELL", x.meanIs(1, 1), ends[way]);
        }
        Refused.ranges("11: way", Slickboom.EAST, Slickboom.NORTH, Bays::busy, (y, way) -> y.boom(2, way, 1));
    }

    /** Promise 11: "strength: 1 to 9", "Throws IllegalArgumentException if way or strength is out of range" */
    private static void boomOfAStrength() {
        Slickboom x = new Slickboom();
        x.boom(3, Slickboom.SOUTH, 1);
        x.boom(4, Slickboom.SOUTH, 9);
        Check.is("11: the least", x.meanIs(0, 2), 1);
        Check.is("11: the most", x.meanIs(1, 2), 9);
        Refused.ranges("11: strength", 1, 9, Bays::busy, (y, strength) -> y.boom(2, Slickboom.NORTH, strength));
    }

    /**
     * Promise 11: "Throws IllegalStateException if there is one on that border that is not BROKEN", "A BOOM lies on
     * the border of a CELL to which a way leads, which is the border of the other CELL, too, back to the first one"
     */
    private static void boomOnTheSameBorder() {
        int[] others = {9, 7, 14, 2};
        int[] back = {Slickboom.WEST, Slickboom.EAST, Slickboom.NORTH, Slickboom.SOUTH};
        int[] ends = {11, 6, 20, 3};
        for (int i = Slickboom.EAST; i <= Slickboom.NORTH; i++) {
            int way = i;
            Supplier<Slickboom> inside = () -> {
                Slickboom x = new Slickboom();
                x.boom(8, way, 5);
                return x;
            };
            Refused.state("11: the same by " + way, inside, x -> x.boom(8, way, 6));
            Refused.state("11: from the other CELL by " + way, inside, x -> x.boom(others[way], back[way], 6));
            Refused.state("11: out of the bay by " + way, () -> {
                Slickboom x = new Slickboom();
                x.boom(ends[way], way, 5);
                return x;
            }, x -> x.boom(ends[way], way, 5));
        }
    }

    /** Promise 11: "which is the border of the other CELL, too, back to the first one" */
    private static void boomOnEachBorder() {
        int[] steps = {1, -1, 6, -6};
        int[] back = {Slickboom.WEST, Slickboom.EAST, Slickboom.NORTH, Slickboom.SOUTH};
        for (int i = 0; i < 24 * 4; i++) {
            int cell = i / 4;
            int way = i % 4;
            int column = cell % 6 + (way == Slickboom.EAST ? 1 : way == Slickboom.WEST ? -1 : 0);
            int other = cell + steps[way];
            boolean leadsOut = column < 0 || column > 5 || other < 0 || other > 23;
            // all borders but that one: some of them have two names
            int same = 0;
            for (int j = 0; j < 24 * 4; j++) {
                Slickboom x = new Slickboom();
                x.boom(cell, way, 5);
                boolean isSame = j == i || !leadsOut && j / 4 == other && j % 4 == back[way];
                Check.is("11: by " + way + " of " + cell + ", then by " + j % 4 + " of " + j / 4,
                        canLay(x, j / 4, j % 4), !isSame);
                same += isSame ? 1 : 0;
            }
            Check.is("11: names of the border by " + way + " of " + cell, same, leadsOut ? 1 : 2);
        }
    }

    private static boolean canLay(Slickboom x, int cell, int way) {
        try {
            return x.boom(cell, way, 5) == 1;
        } catch (IllegalStateException e) {
            return false;
        }
    }

    /** Promise 11: "on that border" */
    private static void boomOnAnotherBorder() {
        // all 58 borders of the bay are different ones: as many BOOMS can be laid, 20 on each object
        int laid = 0;
        for (int from = 0; from < 24; from += 4) {
            Slickboom x = new Slickboom();
            for (int cell = from; cell < from + 4; cell++) {
                for (int way = Slickboom.EAST; way <= Slickboom.NORTH; way++) {
                    if (way == Slickboom.EAST || way == Slickboom.SOUTH || way == Slickboom.WEST && cell % 6 == 0
                            || way == Slickboom.NORTH && cell < 6) {
                        x.boom(cell, way, 1);
                        laid++;
                    }
                }
            }
        }
        Check.is("11: borders", laid, 58);
        Slickboom y = new Slickboom();
        y.boom(5, Slickboom.EAST, 1);
        Check.is("11: the ends of two ROWS are not one border", y.boom(6, Slickboom.WEST, 1), 1);
        y.boom(18, Slickboom.SOUTH, 1);
        Check.is("11: nor the ends of a COLUMN", y.boom(0, Slickboom.NORTH, 1), 2 + 1);
    }

    private static Slickboom withBrokenBoom() {
        Slickboom x = new Slickboom();
        Bays.leak(x, 8, 350);
        x.wind(Slickboom.EAST, 5);
        x.boom(8, Slickboom.EAST, 4);
        x.pass(1);
        Check.is("11: BROKEN", x.meanIs(0, 3), 1);
        return x;
    }

    /** Promise 11: "that is not BROKEN" */
    private static void boomWhereOneIsBroken() {
        Check.is("11: where one is BROKEN", withBrokenBoom().boom(8, Slickboom.EAST, 5), 1);
        Check.is("11: from the other CELL", withBrokenBoom().boom(9, Slickboom.WEST, 5), 1);
        Supplier<Slickboom> withBoth = () -> {
            Slickboom x = withBrokenBoom();
            x.boom(9, Slickboom.WEST, 5);
            return x;
        };
        Refused.state("11: where a second one is not BROKEN", withBoth, x -> x.boom(8, Slickboom.EAST, 9));
        Refused.state("11: nor from the other CELL", withBoth, x -> x.boom(9, Slickboom.WEST, 9));
        Slickboom x = withBoth.get();
        x.pass(1);
        Check.is("11: the second one holds", x.meanIs(1, 3), 0);
        Check.is("11: the first one is BROKEN still", x.meanIs(0, 3), 1);
    }

    // ---- skimmer

    /** Promise 12: "Sends a SKIMMER to a CELL.", "A SKIMMER is in a CELL that is WATER, with a rate and a store" */
    private static void skimmerIsSent() {
        Slickboom x = new Slickboom();
        x.team(1, true);
        Bays.leak(x, 9, 350);
        Check.is("12: its number", x.skimmer(9, 40, 55), 1);
        Check.is("12: a SKIMMER", x.meanIs(1, 0), Slickboom.SKIMMER);
        Check.is("12: its CELL", x.meanIs(1, 1), 9);
        Check.is("12: its rate", x.meanIs(1, 2), 40);
        Check.is("12: its store is empty", x.meanIs(1, 3), 0);
        Check.is("12: a second one in that CELL", x.skimmer(9, 40, 55), 2);
        x.pass(1);
        Check.is("12: it takes by its rate", x.meanIs(1, 3), 40);
        x.pass(1);
        Check.is("12: and by its store", x.meanIs(1, 3), 55);
    }

    /** Promise 12: "cell: 0 to 23", "Throws IndexOutOfBoundsException if there is no such CELL" */
    private static void skimmerInACell() {
        Slickboom x = new Slickboom();
        Check.is("12: in the first CELL", x.skimmer(0, 1, 1), 0);
        Check.is("12: in the last CELL", x.skimmer(23, 1, 1), 1);
        Refused.numbers("12: cell", 24, Bays::busy, (y, cell) -> y.skimmer(cell, 1, 1));
    }

    /** Promise 12: "rate: 1 to 500", "Throws IllegalArgumentException if rate or store is out of range" */
    private static void skimmerByARate() {
        Slickboom x = new Slickboom();
        Bays.leak(x, 14, 9000);
        x.skimmer(14, 1, 5000);
        x.skimmer(14, 500, 5000);
        x.pass(1);
        Check.is("12: the least", x.meanIs(0, 3), 1);
        Check.is("12: the most", x.meanIs(1, 3), 500);
        Refused.ranges("12: rate", 1, 500, Bays::busy, (y, rate) -> y.skimmer(14, rate, 5));
    }

    /** Promise 12: "store: 1 to 5000", "Throws IllegalArgumentException if rate or store is out of range" */
    private static void skimmerWithAStore() {
        Slickboom x = new Slickboom();
        Bays.leak(x, 14, 9000);
        x.skimmer(14, 500, 1);
        x.skimmer(14, 500, 5000);
        x.skimmer(14, 500, 4999);
        x.pass(10);
        Check.is("12: the least", x.meanIs(0, 3), 1);
        Check.is("12: the most", x.meanIs(1, 3), 5000);
        Check.is("12: one less", x.meanIs(2, 3), 4999);
        x.pass(1);
        Check.is("12: the most is full", x.meanIs(1, 3), 5000);
        Refused.ranges("12: store", 1, 5000, Bays::busy, (y, store) -> y.skimmer(14, 5, store));
    }

    /** Promise 12: "Throws IllegalStateException if it is a SHORE" */
    private static void skimmerOnAShore() {
        for (int cell : new int[] {5, 8, 22}) {
            Refused.state("12: a SHORE, " + cell, Bays::busy, x -> x.skimmer(cell, 5, 5));
        }
        Check.is("12: beside them", Bays.busy().skimmer(9, 5, 5), 8);
    }

    // ---- team

    /** Promise 13: "Calls a TEAM.", "isTaught: whether it is taught", "A TEAM has people, and is taught or not." */
    private static void teamIsCalled() {
        Slickboom x = new Slickboom();
        x.boom(0, Slickboom.EAST, 1);
        Check.is("13: its number", x.team(7, true), 1);
        Check.is("13: the next number", x.team(8, false), 2);
        Check.is("13: a TEAM", x.meanIs(1, 0), Slickboom.TEAM);
        Check.is("13: its people", x.meanIs(2, 2), 8);
        Check.is("13: it has not worked", x.meanIs(1, 3), 0);
        Check.is("13: taught", x.teach(1), true);
        Check.is("13: not taught", x.teach(2), false);
    }

    /** Promise 13: "people: 1 to 50", "Throws IllegalArgumentException if people is out of range" */
    private static void teamOfPeople() {
        Slickboom x = Bays.blown(Slickboom.MARSH, 1000);
        x.team(1, true);
        x.team(50, true);
        Check.is("13: the least", x.clean(0, 8), 10);
        Check.is("13: the most", x.clean(1, 8), 500);
        Refused.ranges("13: people", 1, 50, Bays::busy, (y, people) -> y.team(people, true));
        Refused.ranges("13: people not taught", 1, 50, Bays::busy, (y, people) -> y.team(people, false));
    }

    // ---- move

    /** Promise 14: "Sends a SKIMMER to another CELL.", "Returns where it was." */
    private static void moveToAnother() {
        Slickboom x = new Slickboom();
        x.skimmer(3, 1, 1);
        x.skimmer(3, 1, 1);
        Check.is("14: was in 3", x.move(0, 20), 3);
        Check.is("14: is in 20", x.meanIs(0, 1), 20);
        Check.is("14: the other one stays", x.meanIs(1, 1), 3);
        Check.is("14: was in 20", x.move(0, 20), 20);
        Check.is("14: was in 20 still", x.move(0, 3), 20);
        x.pass(5);
        Check.is("14: later, too", x.move(1, 4), 3);
    }

    /** Promise 14: "mean: a SKIMMER", "Throws IndexOutOfBoundsException if there is no such mean or CELL" */
    private static void moveOfAMean() {
        Slickboom x = means(20).get();
        Check.is("14: the first SKIMMER", x.move(1, 5), 0);
        Check.is("14: the last one", x.move(19, 5), 0);
        Refused.numbers("14: a mean of 20,", 20, means(20), (y, mean) -> y.move(mean, 5));
        Refused.numbers("14: a mean of 8,", 8, Bays::busy, (y, mean) -> y.move(mean, 6));
        Refused.numbers("14: a mean of none,", 0, Slickboom::new, (y, mean) -> y.move(mean, 5));
    }

    /** Promise 14: "cell: 0 to 23", "Throws IndexOutOfBoundsException if there is no such mean or CELL" */
    private static void moveToACell() {
        Slickboom x = Bays.busy();
        Check.is("14: to the first CELL", x.move(3, 0), 7);
        Check.is("14: to the last CELL", x.move(3, 23), 0);
        Check.is("14: from the last CELL", x.move(3, 1), 23);
        Refused.numbers("14: cell", 24, Bays::busy, (y, cell) -> y.move(3, cell));
    }

    /** Promise 14: "Throws IllegalStateException if the mean is no SKIMMER" */
    private static void moveNoSkimmer() {
        Refused.state("14: a BOOM", Bays::busy, x -> x.move(0, 9));
        Refused.state("14: a BOOM that is BROKEN", Bays::busy, x -> x.move(1, 9));
        Refused.state("14: a TEAM", Bays::busy, x -> x.move(5, 9));
        Refused.state("14: the last TEAM", Bays::busy, x -> x.move(7, 9));
    }

    /** Promise 14: "or the CELL is a SHORE" */
    private static void moveToAShore() {
        for (int cell : new int[] {5, 8, 15, 22}) {
            Refused.state("14: to the SHORE " + cell, Bays::busy, x -> x.move(4, cell));
        }
        Check.is("14: beside it", Bays.busy().move(4, 16), 14);
    }

    // ---- carry

    /**
     * Promise 15: "Carries away what a SKIMMER has.", "Returns how many litres.", "to carry takes what is in the
     * store away, as LIQUID waste."
     */
    private static void carryTakesAway() {
        Slickboom x = new Slickboom();
        x.hole(x.ship(14, 8000), 50);
        x.skimmer(14, 100, 150);
        x.skimmer(14, 1, 1);
        Check.is("15: an empty store", x.carry(0), 0);
        Check.is("15: no waste", x.waste(Slickboom.LIQUID), 0);
        x.pass(1);
        Check.is("15: some", x.carry(0), 100);
        Check.is("15: LIQUID waste", x.waste(Slickboom.LIQUID), 100);
        Check.is("15: the store is empty", x.meanIs(0, 3), 0);
        Check.is("15: nothing more", x.carry(0), 0);
        Check.is("15: the same waste", x.waste(Slickboom.LIQUID), 100);
        x.pass(2);
        Check.is("15: a full one", x.carry(0), 150);
        Check.is("15: LIQUID waste, together", x.waste(Slickboom.LIQUID), 250);
        Check.is("15: the other one is full still", x.meanIs(1, 3), 1);
        Check.is("15: one litre", x.carry(1), 1);
        Check.is("15: no SOLID waste", x.waste(Slickboom.SOLID), 0);
    }

    /** Promise 15: "mean: a SKIMMER", "Throws IndexOutOfBoundsException if there is no such mean" */
    private static void carryOfAMean() {
        Check.is("15: the last mean", means(20).get().carry(19), 0);
        Check.is("15: the first mean", withSkimmer().carry(0), 9);
        Refused.numbers("15: a mean of 20,", 20, means(20), (y, mean) -> y.carry(mean));
        Refused.numbers("15: a mean of 8,", 8, Bays::busy, (y, mean) -> y.carry(mean));
        Refused.numbers("15: a mean of none,", 0, Slickboom::new, (y, mean) -> y.carry(mean));
    }

    private static Slickboom withSkimmer() {
        Slickboom x = new Slickboom();
        Bays.leak(x, 1, 350);
        x.skimmer(1, 9, 9);
        x.pass(1);
        return x;
    }

    /** Promise 15: "Throws IllegalStateException if it is no SKIMMER" */
    private static void carryNoSkimmer() {
        Refused.state("15: a BOOM", Bays::busy, x -> x.carry(0));
        Refused.state("15: a BOOM that is BROKEN", Bays::busy, x -> x.carry(1));
        Refused.state("15: a TEAM", Bays::busy, x -> x.carry(5));
    }

    // ---- teach

    /** Promise 16: "Teaches a TEAM.", "Returns whether it was taught." */
    private static void teachATeam() {
        Slickboom x = new Slickboom();
        x.shore(5, Slickboom.ROCK);
        x.team(1, false);
        x.team(1, true);
        x.team(1, false);
        Check.is("16: it was not", x.teach(0), false);
        Check.is("16: it was", x.teach(0), true);
        Check.is("16: it was at first", x.teach(1), true);
        Check.is("16: the other one was not", x.teach(2), false);
        Check.is("16: now it can clean", x.clean(0, 5), 0);
    }

    /** Promise 16: "mean: a TEAM", "Throws IndexOutOfBoundsException if there is no such mean" */
    private static void teachOfAMean() {
        Check.is("16: the first mean", means(20).get().teach(0), true);
        Check.is("16: the last TEAM", means(20).get().teach(18), true);
        Refused.numbers("16: a mean of 20,", 20, means(20), (y, mean) -> y.teach(mean));
        Refused.numbers("16: a mean of 8,", 8, Bays::busy, (y, mean) -> y.teach(mean));
        Refused.numbers("16: a mean of none,", 0, Slickboom::new, (y, mean) -> y.teach(mean));
    }

    /** Promise 16: "Throws IllegalStateException if it is no TEAM" */
    private static void teachNoTeam() {
        Refused.state("16: a BOOM", Bays::busy, x -> x.teach(0));
        Refused.state("16: a SKIMMER", Bays::busy, x -> x.teach(4));
    }

    // ---- clean

    /**
     * Promise 17: "Lets a TEAM clean a SHORE.", "Returns how many litres it takes, perhaps 0.", "10 litres of
     * STRANDED oil for each of its people, or all, if there are fewer, are SOLID waste then."
     */
    private static void cleanByPeople() {
        for (int people = 1; people <= 20; people += 19) {
            int most = 10 * people;
            for (int stranded : new int[] {0, 1, most - 1, most}) {
                Slickboom x = Bays.blown(Slickboom.ROCK, stranded);
                x.team(people, true);
                Check.is("17: all of " + stranded, x.clean(0, 8), stranded);
                Check.is("17: nothing is left", x.at(8, 2), 0);
                Check.is("17: SOLID waste", x.waste(Slickboom.SOLID), stranded);
            }
        }
        Slickboom x = Bays.blown(Slickboom.ROCK, 11);
        x.team(1, true);
        x.team(1, true);
        Check.is("17: 10 of 11", x.clean(0, 8), 10);
        Check.is("17: 1 is left", x.at(8, 2), 1);
        Check.is("17: SOLID waste", x.waste(Slickboom.SOLID), 10);
        Check.is("17: the last one", x.clean(1, 8), 1);
        Check.is("17: SOLID waste, together", x.waste(Slickboom.SOLID), 11);
        Check.is("17: no LIQUID waste", x.waste(Slickboom.LIQUID), 0);
    }

    /** Promise 17: "mean: a TEAM", "Throws IndexOutOfBoundsException if there is no such mean or CELL" */
    private static void cleanOfAMean() {
        Check.is("17: the first mean", means(20).get().clean(0, 23), 0);
        Check.is("17: the last TEAM", means(20).get().clean(18, 23), 0);
        Refused.numbers("17: a mean of 20,", 20, means(20), (y, mean) -> y.clean(mean, 23));
        Refused.numbers("17: a mean of 8,", 8, Bays::busy, (y, mean) -> y.clean(mean, 8));
        Refused.numbers("17: a mean of none,", 0, Slickboom::new, (y, mean) -> y.clean(mean, 0));
    }

    /** Promise 17: "cell: 0 to 23", "Throws IndexOutOfBoundsException if there is no such mean or CELL" */
    private static void cleanOfACell() {
        Slickboom x = new Slickboom();
        x.shore(0, Slickboom.ROCK);
        x.shore(23, Slickboom.ROCK);
        x.team(1, true);
        x.team(1, true);
        Check.is("17: the first CELL", x.clean(0, 0), 0);
        Check.is("17: the last CELL", x.clean(1, 23), 0);
        Refused.numbers("17: cell", 24, Bays::busy, (y, cell) -> y.clean(7, cell));
    }

    /** Promise 17: "Throws IllegalStateException if the mean is no TEAM" */
    private static void cleanNoTeam() {
        Refused.state("17: a BOOM", Bays::busy, x -> x.clean(0, 8));
        Refused.state("17: a BOOM that is BROKEN", Bays::busy, x -> x.clean(1, 8));
        Refused.state("17: a SKIMMER", Bays::busy, x -> x.clean(3, 8));
    }

    /** Promise 17: "the CELL is no SHORE" */
    private static void cleanNoShore() {
        for (int cell : new int[] {0, 7, 14, 23}) {
            Refused.state("17: WATER, " + cell, Bays::busy, x -> x.clean(7, cell));
        }
        Check.is("17: a SHORE is beside it", Bays.busy().clean(7, 8), 20);
    }

    /** Promise 17: "or the TEAM cannot clean", "It cleans a SHORE", "if it is taught" */
    private static void cleanIfItIsTaught() {
        Refused.state("17: it is not taught", Bays::busy, x -> x.clean(6, 8));
        Slickboom x = Bays.busy();
        x.teach(6);
        Check.is("17: it is taught now", x.clean(6, 8), 30);
    }

    /** Promise 17: "at most once between two HOURS" */
    private static void cleanOnceBetweenTwoHours() {
        Supplier<Slickboom> cleaned = () -> {
            Slickboom x = Bays.busy();
            x.clean(7, 8);
            return x;
        };
        Refused.state("17: a second time", cleaned, x -> x.clean(7, 8));
        Refused.state("17: a second time, elsewhere", cleaned, x -> x.clean(7, 15));
        Slickboom x = cleaned.get();
        x.pass(1);
        Check.is("17: an HOUR later", x.clean(7, 15), 20);
        // 0 litres are a time, and one at the HOUR 0, too
        Supplier<Slickboom> atHour0 = () -> {
            Slickboom y = new Slickboom();
            y.shore(3, Slickboom.SAND);
            y.team(9, true);
            y.clean(0, 3);
            return y;
        };
        Refused.state("17: a second time at the HOUR 0", atHour0, y -> y.clean(0, 3));
        Slickboom y = atHour0.get();
        y.pass(1);
        Check.is("17: at the HOUR 1", y.clean(0, 3), 0);
        Check.is("17: two times", y.meanIs(0, 3), 2);
    }

    /** A TEAM that worked so often, some HOURS between each two times, and then so many HOURS passed. */
    private static Supplier<Slickboom> worked(int times, int between, int then) {
        return () -> {
            Slickboom x = new Slickboom();
            x.shore(3, Slickboom.SAND);
            x.team(9, true);
            for (int time = 1; time <= times; time++) {
                x.clean(0, 3);
                x.pass(time < times ? between : then);
            }
            return x;
        };
    }

    /** Promise 17: "and has not worked 8 times since it rested" */
    private static void cleanEightTimes() {
        for (int between : new int[] {1, 5, 11}) {
            Check.is("17: the eighth time", worked(7, between, 1).get().clean(0, 3), 0);
            Refused.state("17: the ninth time", worked(8, between, 1), x -> x.clean(0, 3));
            Refused.state("17: the ninth time 11 HOURS later", worked(8, between, 11), x -> x.clean(0, 3));
        }
        Check.is("17: 12 HOURS between are a rest each time", worked(20, 12, 1).get().clean(0, 3), 0);
        // each TEAM has a count of its own
        Slickboom x = worked(8, 1, 1).get();
        x.team(2, true);
        Check.is("17: another TEAM", x.clean(1, 3), 0);
    }

    /** Promise 17: "A TEAM has rested, when it cleans 12 HOURS or more behind the last time." */
    private static void cleanWhenItHasRested() {
        for (int then = 12; then <= 14; then++) {
            Slickboom x = worked(8, 1, then).get();
            Check.is("17: " + then + " HOURS behind the last time", x.clean(0, 3), 0);
            Check.is("18: the first time since", x.meanIs(0, 3), 1);
        }
        // what is refused is no last time
        Slickboom x = worked(8, 1, 11).get();
        try {
            x.clean(0, 3);
        } catch (IllegalStateException e) {
            x.pass(1);
        }
        Check.is("17: 12 HOURS behind the last time that was none", x.clean(0, 3), 0);
        // and 8 times more behind the rest
        Supplier<Slickboom> again = () -> {
            Slickboom y = worked(8, 1, 12).get();
            for (int time = 1; time <= 8; time++) {
                Check.is("17: again", y.clean(0, 3), 0);
                y.pass(1);
            }
            return y;
        };
        Refused.state("17: the ninth time behind the rest", again, y -> y.clean(0, 3));
        // fewer than 8 times and a rest: counted anew, but not by 11 HOURS
        Slickboom rested = worked(5, 1, 12).get();
        rested.clean(0, 3);
        Check.is("18: anew", rested.meanIs(0, 3), 1);
        Slickboom tired = worked(5, 1, 11).get();
        tired.clean(0, 3);
        Check.is("18: not anew", tired.meanIs(0, 3), 6);
    }

    // ---- meanIs

    /** Promise 18: "Returns something of a mean.", "what: 0 BOOM to TEAM", "Returns the number." */
    private static void meanIsOfASort() {
        Slickboom x = Bays.busy();
        int[] sorts = {0, 0, 0, 1, 1, 2, 2, 2};
        for (int mean = 0; mean < 8; mean++) {
            Check.is("18: the sort of " + mean, x.meanIs(mean, 0), sorts[mean]);
        }
        Twins.same("18: asking changes nothing", Bays::busy, y -> y.meanIs(4, 3));
    }

    /** Promise 18: "1 the CELL of a BOOM, as it was told, or of a SKIMMER, NONE of a TEAM" */
    private static void meanIsInACell() {
        Slickboom x = new Slickboom();
        x.boom(9, Slickboom.WEST, 4);
        x.boom(9, Slickboom.EAST, 4);
        x.skimmer(11, 3, 3);
        x.team(3, true);
        Check.is("18: a BOOM, as it was told", x.meanIs(0, 1), 9);
        Check.is("18: another BOOM", x.meanIs(1, 1), 9);
        Check.is("18: a SKIMMER", x.meanIs(2, 1), 11);
        Check.is("18: NONE of a TEAM", x.meanIs(3, 1), Slickboom.NONE);
        x.move(2, 0);
        Check.is("18: a SKIMMER that was sent on", x.meanIs(2, 1), 0);
        x.shore(23, Slickboom.ROCK);
        x.clean(3, 23);
        Check.is("18: NONE of a TEAM that works", x.meanIs(3, 1), Slickboom.NONE);
    }

    /** Promise 18: "2 strength, rate or people" */
    private static void meanIsSoStrong() {
        Slickboom x = Bays.busy();
        int[] due = {9, 5, 8, 100, 50, 5, 3, 2};
        for (int mean = 0; mean < 8; mean++) {
            Check.is("18: strength, rate or people of " + mean, x.meanIs(mean, 2), due[mean]);
        }
    }

    /** Promise 18: "3 of a BOOM whether it is BROKEN, 1 or 0" */
    private static void meanIsBroken() {
        Slickboom x = Bays.busy();
        Check.is("18: it is not BROKEN", x.meanIs(0, 3), 0);
        Check.is("18: it is BROKEN", x.meanIs(1, 3), 1);
    }

    /** Promise 18: "of a SKIMMER what is in its store" */
    private static void meanIsFull() {
        Slickboom x = new Slickboom();
        Bays.leak(x, 14, 350);
        x.skimmer(14, 50, 99);
        Check.is("18: empty", x.meanIs(0, 3), 0);
        x.pass(1);
        Check.is("18: some", x.meanIs(0, 3), 50);
        x.pass(1);
        Check.is("18: full", x.meanIs(0, 3), 99);
        x.carry(0);
        Check.is("18: empty again", x.meanIs(0, 3), 0);
    }

    /** Promise 18: "of a TEAM how often it has worked since it rested, as counted by its last time" */
    private static void meanIsSoOftenAtWork() {
        Slickboom x = worked(0, 1, 1).get();
        Check.is("18: never", x.meanIs(0, 3), 0);
        x.pass(20);
        x.clean(0, 3);
        Check.is("18: the first time, late", x.meanIs(0, 3), 1);
        for (int times = 2; times <= 8; times++) {
            x.pass(1);
            x.clean(0, 3);
            Check.is("18: so often", x.meanIs(0, 3), times);
        }
        x.pass(48);
        Check.is("18: as counted by its last time, though it could have rested", x.meanIs(0, 3), 8);
        x.clean(0, 3);
        Check.is("18: now the first time", x.meanIs(0, 3), 1);
    }

    /** Promise 18: "mean: a mean", "Throws IndexOutOfBoundsException if there is no such mean" */
    private static void meanIsOfAMean() {
        Check.is("18: the first", means(20).get().meanIs(0, 2), 1);
        Check.is("18: the last", means(20).get().meanIs(19, 2), 1);
        for (int what = 0; what <= 3; what++) {
            int of = what;
            Refused.numbers("18: " + what + " of a mean of 8,", 8, Bays::busy, (y, mean) -> y.meanIs(mean, of));
            Refused.numbers("18: " + what + " of a mean of none,", 0, Slickboom::new, (y, mean) -> y.meanIs(mean, of));
        }
    }

    /** Promise 18: "Throws IllegalArgumentException if what is out of range" */
    private static void meanIsSomething() {
        for (int mean = 0; mean < 8; mean++) {
            int of = mean;
            Refused.ranges("18: what of " + mean, 0, 3, Bays::busy, (y, what) -> y.meanIs(of, what));
        }
    }
}
