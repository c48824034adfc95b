/** Promises 11 to 20: means, and the rules against DISPERSING and BURNING. */
public final class MeansTest {
    public static void main(String[] args) {
        boom();
        boomOnTheSameBorder();
        skimmer();
        team();
        twentyMeans();
        move();
        carry();
        teach();
        clean();
        cleanByShifts();
        meanIs();
        disperse();
        burn();
        whyDispersing();
        whyBurning();
        whyByTheFirstLeak();
        Check.end();
    }

    /** 300 FRESH and 33 THICK in the CELL 14 at the HOUR 1, without a WIND. */
    private static Slickboom withOil() {
        Slickboom x = new Slickboom();
        x.ship(14, 8000);
        x.hole(0, 50);
        x.pass(1);
        x.hole(0, 0);
        return x;
    }

    private static void boom() {
        Slickboom x = new Slickboom();
        Check.noNumber("11: cell 24", () -> x.boom(24, 4, 0));
        Check.noNumber("11: cell -1", () -> x.boom(-1, 0, 1));
        Check.noRange("11: way 4", () -> x.boom(0, 4, 1));
        Check.noRange("11: way -1", () -> x.boom(0, -1, 1));
        Check.noRange("11: strength 0", () -> x.boom(0, 0, 0));
        Check.noRange("11: strength 10", () -> x.boom(0, 0, 10));
        x.shore(0, Slickboom.ROCK);
        Check.is("11: out of the bay, by a SHORE", x.boom(0, Slickboom.NORTH, 1), 0);
        Check.is("11: inside", x.boom(23, Slickboom.WEST, 9), 1);
        Check.is("11: a BOOM", x.meanIs(1, 0), Slickboom.BOOM);
        Check.is("11: its CELL", x.meanIs(1, 1), 23);
        Check.is("11: its strength", x.meanIs(1, 2), 9);
        Check.is("11: not BROKEN", x.meanIs(1, 3), 0);
    }

    private static void boomOnTheSameBorder() {
        Slickboom x = new Slickboom();
        x.boom(8, Slickboom.EAST, 5);
        Check.noState("11: the same", () -> x.boom(8, Slickboom.EAST, 6));
        Check.noState("11: from the other CELL", () -> x.boom(9, Slickboom.WEST, 6));
        Check.noRange("11: range ahead", () -> x.boom(9, Slickboom.WEST, 0));
        Check.is("11: another way", x.boom(8, Slickboom.WEST, 5), 1);
        Check.is("11: further EAST", x.boom(9, Slickboom.EAST, 5), 2);
        Check.is("11: NORTH", x.boom(8, Slickboom.NORTH, 5), 3);
        Check.noState("11: SOUTH of the one there", () -> x.boom(2, Slickboom.SOUTH, 5));
        // the ends of two ROWS are not beside one another
        Check.is("11: the end of a ROW", x.boom(5, Slickboom.EAST, 1), 4);
        Check.is("11: the begin of the next one", x.boom(6, Slickboom.WEST, 1), 5);
        Check.is("11: the top", x.boom(1, Slickboom.NORTH, 1), 6);
        Check.is("11: the bottom", x.boom(19, Slickboom.SOUTH, 1), 7);
        Check.noState("11: the bottom again", () -> x.boom(19, Slickboom.SOUTH, 1));

        Slickboom y = new Slickboom();
        y.ship(8, 8000);
        y.hole(0, 50);
        y.wind(Slickboom.EAST, 5);
        y.boom(8, Slickboom.EAST, 4);
        y.pass(1);
        Check.is("11: BROKEN", y.meanIs(0, 3), 1);
        Check.is("11: anew on that border", y.boom(9, Slickboom.WEST, 5), 1);
        Check.noState("11: not twice", () -> y.boom(8, Slickboom.EAST, 9));
        int there = y.at(9, 0) + y.at(9, 1);
        y.pass(1);
        Check.is("11: the new one holds", y.meanIs(1, 3), 0);
        Check.is("11: nothing came", y.at(9, 0) + y.at(9, 1) < there, true);
    }

    private static void skimmer() {
        Slickboom x = new Slickboom();
        x.shore(1, Slickboom.MARSH);
        Check.noNumber("12: cell 24", () -> x.skimmer(24, 0, 0));
        Check.noNumber("12: cell -1", () -> x.skimmer(-1, 1, 1));
        Check.noRange("12: rate 0", () -> x.skimmer(0, 0, 1));
        Check.noRange("12: rate 501", () -> x.skimmer(0, 501, 1));
        Check.noRange("12: store 0", () -> x.skimmer(0, 1, 0));
        Check.noRange("12: store 5001", () -> x.skimmer(0, 1, 5001));
        Check.noRange("12: range ahead of SHORE", () -> x.skimmer(1, 0, 1));
        Check.noState("12: a SHORE", () -> x.skimmer(1, 1, 1));
        Check.is("12: the first", x.skimmer(0, 500, 5000), 0);
        Check.is("12: the second, there", x.skimmer(0, 1, 1), 1);
        Check.is("12: a SKIMMER", x.meanIs(0, 0), Slickboom.SKIMMER);
        Check.is("12: its rate", x.meanIs(0, 2), 500);
        Check.is("12: its store is empty", x.meanIs(0, 3), 0);
    }

    private static void team() {
        Slickboom x = new Slickboom();
        Check.noRange("13: people 0", () -> x.team(0, true));
        Check.noRange("13: people 51", () -> x.team(51, false));
        Check.is("13: the first", x.team(1, true), 0);
        Check.is("13: the second", x.team(50, false), 1);
        Check.is("13: a TEAM", x.meanIs(1, 0), Slickboom.TEAM);
        Check.is("13: people", x.meanIs(1, 2), 50);
        Check.is("13: taught", x.teach(0), true);
        Check.is("13: not taught", x.teach(1), false);
    }

    private static void twentyMeans() {
        Slickboom x = new Slickboom();
        x.shore(23, 1);
        for (int i = 0; i < 20; i++) {
            int mean = i % 3 == 0 ? x.team(1, true) : i % 3 == 1 ? x.skimmer(0, 1, 1) : x.boom(i, Slickboom.EAST, 1);
            Check.is("11 to 13: number", mean, i);
        }
        Check.noState("11: there are 20", () -> x.boom(23, Slickboom.EAST, 1));
        Check.noState("12: there are 20", () -> x.skimmer(0, 1, 1));
        Check.noState("13: there are 20", () -> x.team(1, true));
        Check.noRange("11: range ahead of 20", () -> x.boom(23, Slickboom.EAST, 0));
        Check.noRange("12: range ahead of 20", () -> x.skimmer(0, 0, 1));
        Check.noRange("13: range ahead of 20", () -> x.team(0, true));
        Check.is("18: the last one", x.meanIs(19, 0), Slickboom.SKIMMER);
        Check.noNumber("18: beyond it", () -> x.meanIs(20, 0));
        Check.is("2: a CELL without a SKIMMER among 20 means", x.shore(22, 1), 0);
        Check.noState("2: one with SKIMMERS", () -> x.shore(0, 1));
        x.ship(1, 5000);
        x.hole(0, 10);
        x.wind(0, 9);
        Check.is("9: 20 means", x.pass(3), 3);
        Check.is("31: 20 means", x.nextAnew(1), x.ahead(1, 1));
    }

    private static void move() {
        Slickboom x = new Slickboom();
        x.shore(5, Slickboom.SAND);
        x.skimmer(3, 1, 1);
        x.boom(0, 0, 1);
        x.team(1, true);
        Check.is("14: was in 3", x.move(0, 23), 3);
        Check.is("14: is in 23", x.meanIs(0, 1), 23);
        Check.is("14: stays", x.move(0, 23), 23);
        Check.noNumber("14: mean 3", () -> x.move(3, 0));
        Check.noNumber("14: mean -1", () -> x.move(-1, 0));
        Check.noNumber("14: cell 24", () -> x.move(0, 24));
        Check.noNumber("14: cell -1", () -> x.move(0, -1));
        Check.noNumber("14: cell ahead of sort", () -> x.move(1, 24));
        Check.noState("14: a BOOM", () -> x.move(1, 0));
        Check.noState("14: a TEAM", () -> x.move(2, 0));
        Check.noState("14: to a SHORE", () -> x.move(0, 5));
        Check.is("14: changed nothing", x.meanIs(0, 1), 23);
        Check.is("14: nor the BOOM", x.meanIs(1, 1), 0);
    }

    private static void carry() {
        Slickboom x = new Slickboom();
        x.ship(14, 8000);
        x.hole(0, 50);
        x.skimmer(14, 100, 5000);
        x.boom(0, 0, 1);
        x.team(1, true);
        Check.is("15: nothing yet", x.carry(0), 0);
        x.pass(1);
        Check.is("15: 100 litres", x.carry(0), 100);
        Check.is("15: empty", x.meanIs(0, 3), 0);
        Check.is("15: LIQUID", x.waste(Slickboom.LIQUID), 100);
        Check.is("15: not SOLID", x.waste(Slickboom.SOLID), 0);
        Check.is("15: nothing more", x.carry(0), 0);
        x.pass(2);
        Check.is("15: 200 more", x.carry(0), 200);
        Check.is("15: LIQUID then", x.waste(Slickboom.LIQUID), 300);
        Check.noNumber("15: mean 3", () -> x.carry(3));
        Check.noNumber("15: mean -1", () -> x.carry(-1));
        Check.noState("15: a BOOM", () -> x.carry(1));
        Check.noState("15: a TEAM", () -> x.carry(2));
    }

    private static void teach() {
        Slickboom x = new Slickboom();
        x.team(1, false);
        x.team(1, false);
        x.skimmer(0, 1, 1);
        x.boom(0, 0, 1);
        x.shore(5, 1);
        Check.noState("16: not taught", () -> x.clean(0, 5));
        Check.is("16: was not", x.teach(0), false);
        Check.is("16: was", x.teach(0), true);
        Check.is("16: can clean", x.clean(0, 5), 0);
        Check.noState("16: the other one", () -> x.clean(1, 5));
        Check.noNumber("16: mean 4", () -> x.teach(4));
        Check.noNumber("16: mean -1", () -> x.teach(-1));
        Check.noState("16: a SKIMMER", () -> x.teach(2));
        Check.noState("16: a BOOM", () -> x.teach(3));
    }

    private static void clean() {
        Slickboom x = new Slickboom();
        x.shore(8, Slickboom.ROCK);
        x.ship(7, 100000);
        x.hole(0, 99);
        x.wind(Slickboom.EAST, 9);
        x.pass(1);
        x.wind(Slickboom.EAST, 0);
        x.team(7, true);
        x.team(15, true);
        x.team(1, true);
        x.boom(0, 0, 1);
        x.skimmer(0, 1, 1);
        Check.noNumber("17: mean 5", () -> x.clean(5, 8));
        Check.noNumber("17: mean -1", () -> x.clean(-1, 8));
        Check.noNumber("17: cell 24", () -> x.clean(0, 24));
        Check.noNumber("17: cell -1", () -> x.clean(0, -1));
        Check.noNumber("17: cell ahead of sort", () -> x.clean(3, 24));
        Check.noState("17: a BOOM", () -> x.clean(3, 8));
        Check.noState("17: a SKIMMER", () -> x.clean(4, 8));
        Check.noState("17: WATER", () -> x.clean(0, 7));
        Check.is("17: 10 litres for each of 7", x.clean(0, 8), 70);
        Check.is("17: is left", x.at(8, 2), 130);
        Check.is("17: SOLID", x.waste(Slickboom.SOLID), 70);
        Check.is("17: not LIQUID", x.waste(Slickboom.LIQUID), 0);
        Check.noState("17: once between two HOURS", () -> x.clean(0, 8));
        Check.is("17: all, if there are fewer", x.clean(1, 8), 130);
        Check.is("17: none is left", x.at(8, 2), 0);
        Check.is("17: perhaps 0", x.clean(2, 8), 0);
        Check.noState("17: 0 is work, too", () -> x.clean(2, 8));
        Check.is("17: SOLID then", x.waste(Slickboom.SOLID), 200);
        x.pass(1);
        Check.is("17: again behind an HOUR", x.clean(0, 8), 0);
        Check.is("17: worked twice", x.meanIs(0, 3), 2);
    }

    private static void cleanByShifts() {
        Slickboom x = new Slickboom();
        x.shore(0, Slickboom.ROCK);
        x.team(1, true);
        for (int times = 1; times <= 8; times++) {
            Check.is("17: time " + times, x.clean(0, 0), 0);
            Check.is("18: worked " + times, x.meanIs(0, 3), times);
            x.pass(1);
        }
        Check.noState("17: worked 8 times", () -> x.clean(0, 0));
        x.pass(10);
        Check.noState("17: 11 HOURS behind the last time", () -> x.clean(0, 0));
        Check.is("18: 8 still", x.meanIs(0, 3), 8);
        x.pass(1);
        Check.is("18: 8 by its last time", x.meanIs(0, 3), 8);
        Check.is("17: has rested 12 HOURS", x.clean(0, 0), 0);
        Check.is("18: 1 then", x.meanIs(0, 3), 1);
        x.pass(11);
        Check.is("17: 11 HOURS are no rest", x.clean(0, 0), 0);
        Check.is("18: 2 then", x.meanIs(0, 3), 2);
        x.pass(12);
        Check.is("17: 12 HOURS are", x.clean(0, 0), 0);
        Check.is("18: 1 again", x.meanIs(0, 3), 1);
        // 8 times at 11 HOURS each are 8 times, too
        for (int times = 2; times <= 8; times++) {
            x.pass(11);
            x.clean(0, 0);
        }
        x.pass(11);
        Check.noState("17: the ninth time", () -> x.clean(0, 0));
        // a first time late is no rest that counts
        Slickboom y = new Slickboom();
        y.shore(0, Slickboom.ROCK);
        y.team(1, true);
        y.pass(3);
        y.clean(0, 0);
        Check.is("18: the first time", y.meanIs(0, 3), 1);
    }

    private static void meanIs() {
        Slickboom x = new Slickboom();
        x.boom(9, Slickboom.WEST, 4);
        x.skimmer(10, 30, 40);
        x.team(5, true);
        int[][] due = {{0, 9, 4, 0}, {1, 10, 30, 0}, {2, Slickboom.NONE, 5, 0}};
        for (int mean = 0; mean < 3; mean++) {
            for (int what = 0; what < 4; what++) {
                Check.is("18: meanIs(" + mean + ", " + what + ")", x.meanIs(mean, what), due[mean][what]);
            }
        }
        Check.noNumber("18: mean 3", () -> x.meanIs(3, 4));
        Check.noNumber("18: mean -1", () -> x.meanIs(-1, 0));
        Check.noRange("18: what 4", () -> x.meanIs(0, 4));
        Check.noRange("18: what -1", () -> x.meanIs(0, -1));
    }

    private static void disperse() {
        Slickboom x = withOil();
        Check.noNumber("19: cell 24", () -> x.use(24, 2));
        Check.noNumber("19: cell -1", () -> x.use(-1, 0));
        Check.noRange("19: use 2", () -> x.use(14, 2));
        Check.noRange("19: use -1", () -> x.use(14, -1));
        Check.noState("19: a rule is against it", () -> x.use(14, Slickboom.DISPERSING));
        Check.is("19: changed nothing", x.at(14, 0), 300);
        x.wind(0, 2);
        Check.is("19: all FRESH", x.use(14, Slickboom.DISPERSING), 300);
        Check.is("19: none left", x.at(14, 0), 0);
        Check.is("19: THICK stays", x.at(14, 1), 33);
        Check.is("19: DEEP", x.sum(9), 300);
        Check.is("19: not BURNT", x.sum(10), 0);
        Check.noState("19: more THICK than FRESH", () -> x.use(14, Slickboom.DISPERSING));
        Check.is("19: nothing to disperse", x.use(20, Slickboom.DISPERSING), 0);

        Slickboom y = new Slickboom();
        y.shore(0, Slickboom.ROCK);
        Check.noState("19: a SHORE", () -> y.use(0, 0));
        Check.noRange("19: range ahead of SHORE", () -> y.use(0, 2));
    }

    private static void burn() {
        Slickboom x = withOil();
        Check.is("19: nine tenths", x.use(14, Slickboom.BURNING), 270);
        Check.is("19: a tenth is left", x.at(14, 0), 30);
        Check.is("19: THICK stays", x.at(14, 1), 33);
        Check.is("19: BURNT", x.sum(10), 270);
        Check.is("19: not DEEP", x.sum(9), 0);
        Check.noState("19: too little", () -> x.use(14, Slickboom.BURNING));
        Slickboom y = new Slickboom();
        y.ship(14, 8000);
        y.hole(0, 51);
        y.pass(1);
        // 357 leak, 17 AIR, 34 thicken: 306, of which 275.4
        Check.is("19: rounded down", y.use(14, Slickboom.BURNING), 275);
        Check.is("19: the rest stays", y.at(14, 0), 31);
    }

    private static void against(String what, Slickboom x, int cell, int use, int[] due) {
        for (int i = 0; i < 3; i++) {
            Check.is("20: " + what + ", " + i, x.why(cell, use, i), due[i]);
        }
        if (due[2] > 0) {
            Check.noState("19: " + what, () -> x.use(cell, use));
        }
    }

    private static void whyDispersing() {
        Slickboom x = withOil();
        int use = Slickboom.DISPERSING;
        Check.noNumber("20: cell 24", () -> x.why(24, 2, 3));
        Check.noNumber("20: cell -1", () -> x.why(-1, 0, 0));
        Check.noRange("20: use 2", () -> x.why(14, 2, 0));
        Check.noRange("20: use -1", () -> x.why(14, -1, 0));
        Check.noRange("20: what 3", () -> x.why(14, use, 3));
        Check.noRange("20: what -1", () -> x.why(14, use, -1));
        against("WIND 0", x, 14, use, new int[] {4, 4, 1});
        x.wind(0, 1);
        against("WIND 1", x, 14, use, new int[] {4, 4, 1});
        x.wind(0, 2);
        against("WIND 2", x, 14, use, new int[] {0, 0, 0});
        x.wind(0, 9);
        against("WIND 9", x, 14, use, new int[] {0, 0, 0});
        x.depth(14, 9);
        against("depth 9", x, 14, use, new int[] {1, 1, 1});
        x.depth(14, 10);
        against("depth 10", x, 14, use, new int[] {0, 0, 0});
        x.depth(20, 9);
        against("another CELL", x, 20, use, new int[] {1, 1, 1});
        x.wind(0, 0);
        against("depth and WIND", x, 20, use, new int[] {1, 4, 2});
        // a MARSH beside, another SHORE not
        Slickboom y = new Slickboom();
        y.shore(20, Slickboom.MARSH);
        y.shore(3, Slickboom.SAND);
        y.shore(0, Slickboom.ROCK);
        Check.noState("20: a SHORE", () -> y.why(20, use, 0));
        Check.noRange("20: range ahead of SHORE", () -> y.why(20, use, 3));
        y.wind(0, 2);
        against("a MARSH beside, no leak", y, 14, use, new int[] {2, 5, 2});
        against("a MARSH beside, WEST", y, 21, use, new int[] {2, 5, 2});
        against("a MARSH beside, EAST", y, 19, use, new int[] {2, 5, 2});
        against("a MARSH NORTH", fromNorth(), 20, use, new int[] {2, 5, 2});
        against("a MARSH across", y, 13, use, new int[] {2, 2, 1});
        against("SAND beside", y, 9, use, new int[] {2, 2, 1});
        against("ROCK beside", y, 1, use, new int[] {2, 2, 1});
        against("the end of a ROW", y, 5, use, new int[] {2, 2, 1});
    }

    private static Slickboom fromNorth() {
        Slickboom x = new Slickboom();
        x.shore(14, Slickboom.MARSH);
        x.wind(0, 2);
        return x;
    }

    private static void whyBurning() {
        int use = Slickboom.BURNING;
        Slickboom x = withOil();
        against("nothing", x, 14, use, new int[] {0, 0, 0});
        x.wind(0, 5);
        against("WIND 5", x, 14, use, new int[] {0, 0, 0});
        x.wind(0, 6);
        against("WIND 6", x, 14, use, new int[] {4, 4, 1});
        x.depth(14, 1);
        x.wind(0, 0);
        against("any depth", x, 14, use, new int[] {0, 0, 0});
        against("no oil", x, 13, use, new int[] {1, 1, 1});
        x.use(14, use);
        against("30 FRESH, 33 THICK", x, 14, use, new int[] {1, 3, 2});
        x.wind(0, 9);
        against("and WIND", x, 14, use, new int[] {1, 4, 3});
        // 100 litres are enough, 99 not
        int[] rates = {116, 117};
        for (int i = 0; i < 2; i++) {
            Slickboom y = new Slickboom();
            y.ship(14, 2000);
            y.ship(14, 2000);
            y.hole(0, 58);
            y.hole(1, rates[i] - 59);
            y.pass(1);
            // 115: 5 AIR, 11 thicken, 99; 116: 5 AIR, 11 thicken, 100
            Check.is("20: FRESH", y.at(14, 0), 99 + i);
            against("99 or 100", y, 14, use, i == 0 ? new int[] {1, 1, 1} : new int[] {0, 0, 0});
        }
        for (int kind = Slickboom.ROCK; kind <= Slickboom.MARSH; kind++) {
            Slickboom y = new Slickboom();
            y.shore(15, kind);
            y.ship(14, 8000);
            y.hole(0, 50);
            y.pass(1);
            against("a SHORE beside", y, 14, use, new int[] {5, 5, 1});
        }
    }

    private static void whyByTheFirstLeak() {
        Slickboom x = new Slickboom();
        x.ship(14, 100000);
        x.wind(0, 2);
        x.pass(3);
        Check.is("20: none was", x.why(14, Slickboom.DISPERSING, 0), 2);
        Check.is("20: none was, BURNING", x.why(14, Slickboom.BURNING, 1), 2);
        x.hole(0, 99);
        x.pass(1);
        Check.is("20: 0 HOURS ago", x.why(14, Slickboom.BURNING, 2), 0);
        x.wind(0, 2);
        x.pass(24);
        Check.is("20: 24 HOURS ago", x.why(14, Slickboom.BURNING, 2), 0);
        Check.is("20: 24 HOURS ago, DISPERSING", x.why(14, Slickboom.DISPERSING, 2), 0);
        x.pass(1);
        Check.is("20: 25 HOURS ago", x.why(14, Slickboom.BURNING, 0), 2);
        Check.is("20: alone", x.why(14, Slickboom.BURNING, 2), 1);
        Check.is("20: 25 HOURS ago, DISPERSING", x.why(14, Slickboom.DISPERSING, 2), 0);
        x.pass(47);
        Check.is("20: 72 HOURS ago", x.why(12, Slickboom.DISPERSING, 2), 0);
        x.pass(1);
        Check.is("20: 73 HOURS ago", x.why(12, Slickboom.DISPERSING, 0), 2);
        Check.is("20: 73 HOURS ago, alone", x.why(12, Slickboom.DISPERSING, 2), 1);
        // a hole below the TIDE, and a rate of 0, leak nothing
        Slickboom y = new Slickboom();
        y.ship(14, 1500);
        y.hole(0, 99);
        y.pass(11);
        Check.is("20: no litre leaked", y.why(14, Slickboom.DISPERSING, 0), 2);
        y.pass(1);
        Check.is("20: now one did", y.why(13, Slickboom.DISPERSING, 0), 4);
        // one litre is a leak
        Slickboom one = new Slickboom();
        one.ship(14, 2000);
        one.hole(0, 1);
        one.wind(0, 2);
        one.pass(1);
        Check.is("20: one litre leaked", one.sum(1), 1);
        Check.is("20: that is a leak", one.why(14, Slickboom.DISPERSING, 2), 0);
        // an ahead leaks nothing
        Slickboom z = new Slickboom();
        z.ship(14, 100000);
        z.hole(0, 99);
        z.ahead(14, 5);
        z.nextAnew(14);
        Check.is("20: no leak by ahead", z.why(14, Slickboom.DISPERSING, 0), 2);
    }
}
