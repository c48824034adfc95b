/** How an HOUR passes, step by step (promise 9, with 10 and 32). */
public final class HourTest {
    public static void main(String[] args) {
        tides();
        leaks();
        twoShipsInOneCell();
        weathers();
        driftsByEachWay();
        driftsOutByEachWay();
        driftsAllAtOnce();
        strandsFreshFirst();
        booms();
        boomsThatNothingReaches();
        givesBack();
        givesBackToTheLowest();
        skims();
        skimsByNumbers();
        oilsBirds();
        losesSignatures();
        Check.end();
    }

    private static Slickboom withOil(int cell, int litres, int rate) {
        Slickboom x = new Slickboom();
        x.ship(cell, litres);
        x.hole(0, rate);
        return x;
    }

    private static void tides() {
        int[] tide = {0, 1, 2, 3, 4, 5, 6, 5, 4, 3, 2, 1};
        Slickboom x = withOil(0, 100000, 1);
        int has = 100000;
        for (int hour = 1; hour <= 30; hour++) {
            x.pass(1);
            has -= has / 1000 - tide[hour % 12];
            Check.is("9: tide at " + hour, x.shipHas(0), has);
        }
    }

    private static void leaks() {
        Slickboom x = withOil(0, 1999, 99);
        x.pass(1);
        Check.is("9: LEVEL 1 is not above TIDE 1", x.shipHas(0), 1999);
        Check.is("9: no leak yet", x.why(0, Slickboom.DISPERSING, 0), 2);
        x.pass(11);
        Check.is("9: LEVEL 1 above TIDE 0", x.shipHas(0), 1900);
        Check.is("9: leaked", x.sum(1), 99);
        Check.is("9: 4 in the AIR, 9 thicken", x.at(0, 0), 86);
        Check.is("9: THICK", x.at(0, 1), 9);
        Slickboom y = withOil(0, 999, 99);
        y.pass(12);
        Check.is("9: LEVEL 0", y.shipHas(0), 999);
    }

    private static void twoShipsInOneCell() {
        Slickboom x = withOil(2, 3000, 5);
        x.ship(2, 5000);
        x.hole(1, 2);
        x.ship(3, 4000);
        x.hole(2, 1);
        x.pass(1);
        Check.is("9: 10 and 8 leak there", x.at(2, 0) + x.at(2, 1), 18);
        Check.is("9: 3 leak beside", x.at(3, 0), 3);
        Check.is("9: all", x.sum(1), 21);
    }

    private static void weathers() {
        Slickboom x = withOil(9, 100000, 99);
        x.pass(1);
        Check.is("9: FRESH", x.at(9, 0), 8380);
        Check.is("9: THICK", x.at(9, 1), 913);
        Check.is("9: AIR", x.sum(4), 490);
        Check.is("9: SUNK", x.sum(5), 18);
        x.hole(0, 0);
        x.pass(1);
        // 8380: 419 AIR, 7961; 796 thicken, 7165; 1709: 34 sink
        Check.is("9: FRESH later", x.at(9, 0), 7165);
        Check.is("9: THICK later", x.at(9, 1), 1675);
        Check.is("9: AIR later", x.sum(4), 909);
        Check.is("9: SUNK later", x.sum(5), 52);
    }

    private static void driftsByEachWay() {
        int[] to = {15, 13, 20, 8};
        for (int way = 0; way < 4; way++) {
            Slickboom x = withOil(14, 8000, 50);
            x.wind(way, 3);
            x.pass(1);
            // 350 leak, 17 AIR, 33 thicken: 300 and 33
            Check.is("9: stays, way " + way, x.at(14, 0), 210);
            Check.is("9: stays THICK, way " + way, x.at(14, 1), 24);
            Check.is("9: goes, way " + way, x.at(to[way], 0), 90);
            Check.is("9: goes THICK, way " + way, x.at(to[way], 1), 9);
            Check.is("9: all floats", x.sum(3), 333);
        }
    }

    private static void driftsOutByEachWay() {
        int[] from = {11, 12, 19, 4};
        for (int way = 0; way < 4; way++) {
            Slickboom x = withOil(from[way], 8000, 50);
            x.wind(way, 3);
            x.pass(1);
            Check.is("9: stays, way " + way, x.at(from[way], 0), 210);
            Check.is("9: OUT, way " + way, x.sum(6), 99);
            Check.is("9: floats, way " + way, x.sum(3), 234);
        }
    }

    private static void driftsAllAtOnce() {
        for (int way = 0; way < 2; way++) {
            Slickboom x = withOil(8, 8000, 50);
            x.ship(9, 8000);
            x.hole(1, 50);
            x.wind(way, 9);
            x.pass(1);
            int first = way == 0 ? 8 : 9;
            int second = way == 0 ? 9 : 8;
            int third = way == 0 ? 10 : 7;
            Check.is("9: the first keeps a tenth", x.at(first, 0), 30);
            Check.is("9: the second has its own and the first's", x.at(second, 0), 300);
            Check.is("9: the third has the second's", x.at(third, 0), 270);
        }
    }

    private static void strandsFreshFirst() {
        Slickboom x = new Slickboom();
        x.shore(8, Slickboom.ROCK);
        x.ship(7, 8000);
        x.hole(0, 50);
        x.wind(Slickboom.EAST, 6);
        x.pass(1);
        // 180 FRESH and 19 THICK go
        Check.is("9: STRANDED", x.at(8, 2), 199);
        Check.is("9: FRESH stays", x.at(7, 0), 120);
        Check.is("9: THICK stays", x.at(7, 1), 14);
        x.hole(0, 0);
        x.pass(1);
        // 120: 6 AIR, 11 thicken, 103; 25 THICK; room for 1: FRESH
        Check.is("9: full", x.at(8, 2), 200);
        Check.is("9: one FRESH gone", x.at(7, 0), 102);
        Check.is("9: no THICK gone", x.at(7, 1), 25);
        Check.is("9: sum STRANDED", x.sum(7), 200);

        Slickboom y = new Slickboom();
        y.shore(8, Slickboom.ROCK);
        y.ship(7, 8000);
        y.hole(0, 50);
        y.wind(Slickboom.EAST, 7);
        y.pass(1);
        // 210 FRESH would go: room for 200, none for the THICK
        Check.is("9: filled by FRESH", y.at(8, 2), 200);
        Check.is("9: FRESH that it does not hold stays", y.at(7, 0), 100);
        Check.is("9: THICK stays where it was", y.at(7, 1), 33);
        // nothing drifts from a SHORE
        Slickboom z = new Slickboom();
        z.shore(8, Slickboom.MARSH);
        z.ship(7, 8000);
        z.hole(0, 50);
        z.wind(Slickboom.EAST, 3);
        z.pass(8);
        Check.is("9: nothing goes beyond a SHORE", z.at(9, 0) + z.at(9, 1) + z.sum(6), 0);
    }

    private static void booms() {
        // from inside, told from either CELL of the border
        for (int told = 0; told < 2; told++) {
            Slickboom x = withOil(14, 8000, 50);
            x.wind(Slickboom.SOUTH, 3);
            int boom = told == 0 ? x.boom(14, Slickboom.SOUTH, 3) : x.boom(20, Slickboom.NORTH, 3);
            x.pass(1);
            Check.is("9: held", x.at(14, 0), 300);
            Check.is("9: nothing came", x.at(20, 0) + x.at(20, 1), 0);
            Check.is("9: not BROKEN", x.meanIs(boom, 3), 0);
            x.wind(Slickboom.SOUTH, 4);
            x.pass(1);
            Check.is("9: BROKEN", x.meanIs(boom, 3), 1);
            Check.is("9: all goes", x.at(20, 0) > 0, true);
            x.wind(Slickboom.SOUTH, 1);
            int before = x.at(20, 0) + x.at(20, 1);
            x.pass(1);
            Check.is("9: BROKEN stays so", x.at(20, 0) + x.at(20, 1) > before, true);
        }
        Slickboom out = withOil(5, 8000, 50);
        out.boom(5, Slickboom.EAST, 9);
        out.boom(5, Slickboom.NORTH, 1);
        out.wind(Slickboom.EAST, 9);
        out.pass(1);
        Check.is("9: held in the bay", out.sum(6), 0);
        Check.is("9: all there", out.at(5, 0), 300);
        out.wind(Slickboom.NORTH, 2);
        out.pass(1);
        Check.is("9: the other one is BROKEN", out.meanIs(1, 3), 1);
        Check.is("9: the first one is not", out.meanIs(0, 3), 0);
        Check.is("9: OUT by the NORTH", out.sum(6) > 0, true);
    }

    private static void boomsThatNothingReaches() {
        Slickboom x = new Slickboom();
        x.shore(8, Slickboom.ROCK);
        x.ship(7, 8000);
        x.hole(0, 50);
        x.wind(Slickboom.EAST, 9);
        x.pass(1);
        Check.is("9: full", x.at(8, 2), 200);
        x.boom(7, Slickboom.EAST, 1);
        x.boom(7, Slickboom.WEST, 1);
        x.boom(0, Slickboom.EAST, 1);
        x.boom(13, Slickboom.SOUTH, 1);
        x.pass(1);
        Check.is("9: at a full SHORE", x.meanIs(0, 3), 0);
        Check.is("9: against the WIND", x.meanIs(1, 3), 0);
        Check.is("9: without oil", x.meanIs(2, 3), 0);
        Check.is("9: across the WIND", x.meanIs(3, 3), 0);
        // 1 litre by 9 of 10 is none
        Slickboom y = withOil(0, 2000, 1);
        y.boom(0, Slickboom.EAST, 1);
        y.wind(Slickboom.EAST, 9);
        y.pass(1);
        Check.is("9: one litre", y.at(0, 0), 1);
        Check.is("9: does not go", y.meanIs(0, 3), 0);
        // one of 2 litres does, and breaks it
        Slickboom one = withOil(0, 2000, 2);
        one.boom(0, Slickboom.EAST, 1);
        one.wind(Slickboom.EAST, 5);
        one.pass(1);
        Check.is("9: one litre goes", one.at(1, 0), 1);
        Check.is("9: one litre breaks", one.meanIs(0, 3), 1);
        // THICK oil alone breaks it, too: 300 FRESH are skimmed, 33 THICK stay
        Slickboom z = withOil(0, 8000, 50);
        z.skimmer(0, 300, 300);
        z.pass(1);
        z.hole(0, 0);
        z.boom(0, Slickboom.EAST, 1);
        z.wind(Slickboom.EAST, 2);
        z.pass(1);
        Check.is("9: THICK goes", z.at(1, 1), 6);
        Check.is("9: and breaks", z.meanIs(1, 3), 1);
    }

    private static void givesBack() {
        int[] kinds = {Slickboom.ROCK, Slickboom.SAND, Slickboom.MARSH};
        int[] held = {200, 500, 1000};
        int[] back = {40, 50, 0};
        for (int i = 0; i < 3; i++) {
            Slickboom x = new Slickboom();
            x.shore(8, kinds[i]);
            x.ship(7, 100000);
            x.hole(0, 99);
            x.wind(Slickboom.EAST, 9);
            x.pass(1);
            x.hole(0, 0);
            Check.is("9: holds", x.at(8, 2), held[i]);
            x.wind(Slickboom.EAST, 0);
            x.pass(4);
            Check.is("9: at the HOUR 5", x.at(8, 2), held[i]);
            x.pass(1);
            Check.is("9: at the HOUR 6", x.at(8, 2), held[i] - back[i]);
            Check.is("9: THICK of the CELL 2", x.at(2, 1), back[i]);
            Check.is("9: not FRESH", x.at(2, 0), 0);
            x.pass(11);
            Check.is("9: at the HOUR 17", x.at(8, 2), held[i] - back[i]);
            x.pass(1);
            int left = held[i] - back[i];
            int[] later = {left / 5, left / 10, 0};
            Check.is("9: at the HOUR 18", x.at(8, 2), left - later[i]);
        }
    }

    private static void givesBackToTheLowest() {
        // the SHORE 8 between SHORES 2 and 14 gives back to 7; the SHORE 0 among SHORES keeps all
        Slickboom x = new Slickboom();
        x.shore(8, Slickboom.ROCK);
        x.shore(2, Slickboom.MARSH);
        x.shore(14, Slickboom.MARSH);
        x.ship(9, 100000);
        x.hole(0, 99);
        x.wind(Slickboom.WEST, 9);
        x.pass(1);
        x.hole(0, 0);
        x.wind(Slickboom.WEST, 0);
        x.pass(5);
        Check.is("9: given back", x.at(8, 2), 160);
        Check.is("9: to the lowest", x.at(7, 1), 40);

        Slickboom y = new Slickboom();
        y.shore(0, Slickboom.ROCK);
        y.shore(6, Slickboom.MARSH);
        y.ship(1, 100000);
        y.hole(0, 99);
        y.wind(Slickboom.WEST, 9);
        y.pass(6);
        Check.is("9: gives back behind the drift", y.at(0, 2), 160);
        y.pass(1);
        Check.is("9: and is filled in the next HOUR", y.at(0, 2), 200);
    }

    private static void skims() {
        Slickboom x = withOil(14, 8000, 50);
        x.skimmer(14, 320, 5000);
        x.pass(1);
        Check.is("9: all FRESH, half of 20 is 10 THICK", x.meanIs(0, 3), 310);
        Check.is("9: no FRESH left", x.at(14, 0), 0);
        Check.is("9: THICK left", x.at(14, 1), 23);
        Slickboom all = withOil(14, 8000, 50);
        all.skimmer(14, 500, 5000);
        all.pass(1);
        Check.is("9: all THICK, too", all.meanIs(0, 3), 333);
        Slickboom less = withOil(14, 8000, 50);
        less.skimmer(14, 303, 5000);
        less.pass(1);
        Check.is("9: half of 3 is 1", less.meanIs(0, 3), 301);
        Slickboom rate = withOil(14, 8000, 50);
        rate.skimmer(14, 300, 5000);
        rate.pass(1);
        Check.is("9: its rate is used up", rate.meanIs(0, 3), 300);
        Check.is("9: no THICK taken", rate.at(14, 1), 33);
        Slickboom room = withOil(14, 8000, 50);
        room.skimmer(14, 500, 305);
        room.pass(1);
        Check.is("9: as its store has room", room.meanIs(0, 3), 305);
        Check.is("9: THICK that has no room", room.at(14, 1), 28);
        room.pass(1);
        Check.is("9: full", room.meanIs(0, 3), 305);
        Slickboom full = withOil(14, 8000, 50);
        full.skimmer(14, 500, 100);
        full.pass(1);
        Check.is("9: FRESH as the store has room", full.meanIs(0, 3), 100);
        Check.is("9: FRESH left", full.at(14, 0), 200);
        Slickboom there = withOil(14, 8000, 50);
        there.skimmer(15, 500, 500);
        there.pass(1);
        Check.is("9: it takes from its CELL alone", there.meanIs(0, 3), 0);
    }

    private static void skimsByNumbers() {
        Slickboom x = withOil(14, 8000, 50);
        x.skimmer(14, 200, 5000);
        x.skimmer(14, 120, 5000);
        x.pass(1);
        Check.is("9: the first takes its rate", x.meanIs(0, 3), 200);
        Check.is("9: the second what is left, and 10 THICK", x.meanIs(1, 3), 110);
        Check.is("9: in stores", x.sum(8), 310);
    }

    private static void oilsBirds() {
        Slickboom x = new Slickboom();
        x.shore(8, Slickboom.SAND);
        x.birds(8, 12);
        x.ship(7, 100000);
        x.hole(0, 99);
        x.wind(Slickboom.EAST, 9);
        x.pass(1);
        Check.is("9: 5 by 500", x.at(8, 6), 5);
        x.pass(1);
        Check.is("9: 5 more", x.at(8, 6), 10);
        x.pass(1);
        Check.is("9: as far as there are", x.at(8, 6), 12);
        Check.is("9: birds stay", x.at(8, 5), 12);
        // 99 litres oil none, 100 oil one
        Slickboom y = new Slickboom();
        y.shore(8, Slickboom.MARSH);
        y.birds(8, 50);
        y.ship(7, 5000);
        y.hole(0, 29);
        y.wind(Slickboom.EAST, 9);
        y.pass(1);
        // 116 leak, 5 AIR, 11 thicken: 100 and 11, of which 90 and 9 go
        Check.is("9: 99 litres", y.at(8, 2), 99);
        Check.is("9: oil none", y.at(8, 6), 0);
        y.hole(0, 0);
        y.pass(1);
        Check.is("9: 100 litres or more", y.at(8, 2), 109);
        Check.is("9: oil one", y.at(8, 6), 1);
    }

    private static void losesSignatures() {
        int[] leaked = {16, 17};
        int[] stranded = {10, 11};
        int[] signatures = {5, 0};
        for (int i = 0; i < 2; i++) {
            Slickboom x = new Slickboom();
            x.shore(8, Slickboom.ROCK);
            x.sign(8, 0);
            x.sign(8, 2);
            x.ship(7, 2000);
            x.hole(0, leaked[i]);
            x.wind(Slickboom.EAST, 7);
            x.pass(1);
            // 16: 1 thickens, 10 of 15 go, none of 1; 17: 11 of 16 go; a twentieth of 200 is 10
            Check.is("9: STRANDED", x.at(8, 2), stranded[i]);
            Check.is("9: signatures", x.at(8, 7), signatures[i]);
            Check.is("9: CLEAN", x.at(8, 8), i == 0 ? 1 : 0);
        }
    }
}
