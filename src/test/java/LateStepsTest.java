/** Promise 9, the steps 5 to 7: what comes back, SKIMMERS, birds, signatures; and each step in each CELL. */
public final class LateStepsTest {
    public static void main(String[] args) {
        givesBackAtTheTide6();
        givesBackAPart();
        givesBackToTheLowest();
        skimsFreshByItsRate();
        skimsFreshByItsStore();
        skimsThickByHalfOfWhatIsLeft();
        skimsThickByItsStore();
        skimsItsCell();
        oilsByHundreds();
        oilsAsFarAsThereAreBirds();
        losesSignatures();
        everyShore();
        everyWater();
        Check.end();
    }

    // ---- 5: what comes back

    /** Promise 9: "If the TIDE is 6, each SHORE that has WATER beside it gives back a part of its STRANDED oil" */
    private static void givesBackAtTheTide6() {
        Slickboom x = Bays.blown(Slickboom.ROCK, 200);
        int has = 200;
        for (int hour = 2; hour <= 44; hour++) {
            x.pass(1);
            has -= hour % 12 == 6 ? has / 5 : 0;
            Check.is("9: STRANDED at the HOUR " + hour, x.at(8, 2), has);
        }
        // a SHORE among SHORES has no WATER from which oil could come to it, and gives none
        Slickboom y = new Slickboom();
        y.shore(0, Slickboom.ROCK);
        y.shore(1, Slickboom.ROCK);
        y.shore(6, Slickboom.ROCK);
        Bays.leak(y, 2, 9000);
        y.wind(Slickboom.WEST, 9);
        y.pass(5);
        Check.is("9: none behind a SHORE", y.at(0, 2), 0);
        y.wind(Slickboom.WEST, 0);
        y.pass(1);
        Check.is("9: the SHORE 1 gives to the CELL 2", y.at(1, 2), 160);
        Check.is("9: not to the SHORES beside it", y.at(0, 2) + y.at(7, 1), 0);
    }

    /** Promise 9: "ROCK a fifth, SAND a tenth, MARSH none: it is THICK oil" */
    private static void givesBackAPart() {
        int[] by = {0, 5, 10, 0};
        int[] holds = {0, 200, 500, 1000};
        for (int kind = Slickboom.ROCK; kind <= Slickboom.MARSH; kind++) {
            for (int litres = 0; litres <= holds[kind]; litres += litres < 41 ? 1 : 53) {
                Slickboom x = Bays.blown(kind, litres);
                x.pass(4);
                Check.is("9: STRANDED at the HOUR 5", x.at(8, 2), litres);
                x.pass(1);
                int back = by[kind] == 0 ? 0 : litres / by[kind];
                Check.is("9: the kind " + kind + " of " + litres, x.at(8, 2), litres - back);
                Check.is("9: THICK oil of the CELL 2", x.at(2, 1), back);
                Check.is("9: no FRESH oil", x.at(2, 0), 0);
            }
        }
    }

    /** Promise 9: "of the lowest CELL of these." */
    private static void givesBackToTheLowest() {
        int[] beside = {2, 7, 9, 14};
        int[] wayFrom = {Slickboom.SOUTH, Slickboom.EAST, Slickboom.WEST, Slickboom.NORTH};
        for (int water = 1; water < 16; water++) {
            int lowest = -1;
            Slickboom x = new Slickboom();
            x.shore(8, Slickboom.ROCK);
            int from = -1;
            for (int i = 0; i < 4; i++) {
                if ((water >> i) % 2 == 0) {
                    x.shore(beside[i], Slickboom.MARSH);
                } else {
                    lowest = lowest < 0 ? beside[i] : lowest;
                    from = i;
                }
            }
            Bays.leak(x, beside[from], 9000);
            x.wind(wayFrom[from], 9);
            x.pass(1);
            Bays.stop(x);
            x.wind(wayFrom[from], 0);
            x.pass(4);
            Check.is("9: full", x.at(8, 2), 200);
            int left = x.at(beside[from], 0) - x.at(beside[from], 0) / 20;
            int thick = x.at(beside[from], 1) + left / 10;
            x.pass(1);
            Check.is("9: given back", x.at(8, 2), 160);
            for (int i = 0; i < 4; i++) {
                int own = i == from ? thick - thick / 50 : 0;
                Check.is("9: to " + beside[i] + " of " + water, x.at(beside[i], 1), own + (beside[i] == lowest ? 40 : 0));
            }
        }
    }

    // ---- 6: SKIMMERS; 350 leaked litres are 300 FRESH and 33 THICK

    private static Slickboom skims(int rate, int store) {
        Slickboom x = new Slickboom();
        Bays.leak(x, 14, 350);
        x.skimmer(14, rate, store);
        x.pass(1);
        return x;
    }

    private static void left(String what, Slickboom x, int fresh, int thick) {
        Check.is("9: " + what + ", FRESH left", x.at(14, 0), fresh);
        Check.is("9: " + what + ", THICK left", x.at(14, 1), thick);
        Check.is("9: " + what + ", in its store", x.meanIs(0, 3), 333 - fresh - thick);
    }

    /**
     * Promise 9: "A SKIMMER takes from its CELL as many litres of FRESH oil as its rate, or all, if there are fewer"
     */
    private static void skimsFreshByItsRate() {
        left("rate 1", skims(1, 5000), 299, 33);
        left("rate 299", skims(299, 5000), 1, 33);
        left("rate 300", skims(300, 5000), 0, 33);
        left("rate 301", skims(301, 5000), 0, 33);
        Slickboom none = new Slickboom();
        none.skimmer(14, 500, 5000);
        none.pass(1);
        Check.is("9: of no oil", none.meanIs(0, 3), 0);
    }

    /** Promise 9: "and as its store has room" */
    private static void skimsFreshByItsStore() {
        left("store 1", skims(300, 1), 299, 33);
        left("store 299", skims(300, 299), 1, 33);
        left("store 300", skims(300, 300), 0, 33);
        // what is in the store is room no more: 100, then 99, then 1, then none
        Slickboom x = new Slickboom();
        x.hole(x.ship(14, 100000), 90);
        x.skimmer(14, 100, 200);
        x.pass(1);
        Check.is("9: 100", x.meanIs(0, 3), 100);
        x.pass(1);
        Check.is("9: just full", x.meanIs(0, 3), 200);
        x.pass(1);
        Check.is("9: full", x.meanIs(0, 3), 200);
        x.carry(0);
        x.pass(1);
        Check.is("9: emptied, it takes again", x.meanIs(0, 3), 100);
        Slickboom y = new Slickboom();
        y.hole(y.ship(14, 100000), 90);
        y.skimmer(14, 100, 199);
        y.pass(2);
        Check.is("9: 99 in the second HOUR", y.meanIs(0, 3), 199);
    }

    /** Promise 9: "then of THICK oil the half of what is left of its rate, or all" */
    private static void skimsThickByHalfOfWhatIsLeft() {
        left("half of 0", skims(300, 5000), 0, 33);
        left("half of 1", skims(301, 5000), 0, 33);
        left("half of 2", skims(302, 5000), 0, 32);
        left("half of 3", skims(303, 5000), 0, 32);
        left("half of 65", skims(365, 5000), 0, 1);
        left("half of 66", skims(366, 5000), 0, 0);
        left("half of 68, but all", skims(368, 5000), 0, 0);
        left("half of 200, but all", skims(500, 5000), 0, 0);
        // THICK oil alone: half of the whole rate
        Slickboom x = skims(300, 300);
        Bays.stop(x);
        x.skimmer(14, 31, 100);
        x.pass(1);
        Check.is("9: half of 31", x.meanIs(1, 3), 15);
    }

    /** Promise 9: "or all, and as its store has room." */
    private static void skimsThickByItsStore() {
        left("no room for THICK", skims(500, 300), 0, 33);
        left("room for 1", skims(500, 301), 0, 32);
        left("room for 32", skims(500, 332), 0, 1);
        left("room for 33", skims(500, 333), 0, 0);
        left("room for 34", skims(500, 334), 0, 0);
        left("less room than half of its rate", skims(320, 305), 0, 28);
        left("as much room as half of its rate", skims(320, 310), 0, 23);
        left("more room than half of its rate", skims(320, 311), 0, 23);
    }

    /** Promise 9: "from its CELL" */
    private static void skimsItsCell() {
        for (int cell : new int[] {13, 15, 8, 20}) {
            Slickboom x = new Slickboom();
            Bays.leak(x, 14, 350);
            x.skimmer(cell, 500, 5000);
            x.pass(1);
            Check.is("9: not from beside it", x.meanIs(0, 3), 0);
            x.move(0, 14);
            Bays.stop(x);
            x.pass(1);
            Check.is("9: where it was sent", x.meanIs(0, 3) > 300, true);
        }
    }

    // ---- 7: birds, signatures

    /**
     * Promise 9: "On a SHORE with 100 litres of STRANDED oil or more as many birds as hundreds of these become OILED"
     */
    private static void oilsByHundreds() {
        int[] litres = {0, 99, 100, 101, 199, 200, 299, 300, 999, 1000};
        int[] oiled = {0, 0, 1, 1, 1, 2, 2, 3, 9, 10};
        for (int i = 0; i < litres.length; i++) {
            Slickboom x = Bays.blown(Slickboom.MARSH, litres[i], y -> y.birds(8, 100));
            Check.is("9: OILED by " + litres[i], x.at(8, 6), oiled[i]);
            x.pass(1);
            Check.is("9: twice as many in the next HOUR, by " + litres[i], x.at(8, 6), 2 * oiled[i]);
            Check.is("9: birds stay", x.at(8, 5), 100);
        }
        Check.is("9: ROCK holds 200", Bays.blown(Slickboom.ROCK, 400, y -> y.birds(8, 9)).at(8, 6), 2);
        Check.is("9: SAND holds 500", Bays.blown(Slickboom.SAND, 600, y -> y.birds(8, 9)).at(8, 6), 5);
    }

    /** Promise 9: "as far as there are birds that are not." */
    private static void oilsAsFarAsThereAreBirds() {
        for (int birds = 1; birds <= 12; birds++) {
            int many = birds;
            Slickboom x = Bays.blown(Slickboom.SAND, 500, y -> y.birds(8, many));
            Check.is("9: of " + birds, x.at(8, 6), Math.min(birds, 5));
            x.pass(1);
            Check.is("9: then of " + birds, x.at(8, 6), Math.min(birds, 10));
            x.pass(1);
            Check.is("9: all of " + birds, x.at(8, 6), birds);
            Check.is("9: no birds are gone", x.at(8, 5), birds);
        }
        Check.is("9: of none", Bays.blown(Slickboom.SAND, 500).at(8, 6), 0);
    }

    /** Promise 9: "A SHORE with more than a twentieth of what it holds loses its signatures." */
    private static void losesSignatures() {
        int[] twentieth = {0, 10, 25, 50};
        for (int kind = Slickboom.ROCK; kind <= Slickboom.MARSH; kind++) {
            for (int more = -1; more <= 1; more++) {
                Slickboom x = Bays.blown(kind, twentieth[kind] + more, y -> {
                    y.shore(21, Slickboom.ROCK);
                    y.sign(21, 1);
                    y.sign(8, 0);
                    y.sign(8, 2);
                });
                String what = "9: the kind " + kind + " with " + x.at(8, 2);
                Check.is(what + ", signatures", x.at(8, 7), more > 0 ? 0 : 5);
                Check.is(what + ", CLEAN", x.at(8, 8), more > 0 ? 0 : 1);
                Check.is("9: those of another SHORE stay", x.at(21, 7), 2);
            }
        }
    }

    // ---- in each CELL

    /** A SHORE of ROCK with 40 birds, signed, that a WIND fills from one side, at the HOUR 1. */
    private static Slickboom filled(int shore, int from, int way) {
        Slickboom x = new Slickboom();
        x.shore(shore, Slickboom.ROCK);
        x.birds(shore, 40);
        x.sign(shore, 0);
        Bays.leak(x, from, 9000);
        x.wind(way, 9);
        x.pass(1);
        Bays.stop(x);
        x.wind(way, 0);
        return x;
    }

    /**
     * Promise 9: "each SHORE that has WATER beside it gives back", "of the lowest CELL of these.", "On a SHORE with
     * 100 litres of STRANDED oil or more", "A SHORE with more than a twentieth of what it holds loses its
     * signatures."
     */
    private static void everyShore() {
        int[] back = {Slickboom.WEST, Slickboom.EAST, Slickboom.NORTH, Slickboom.SOUTH};
        int[] upwards = {Slickboom.NORTH, Slickboom.WEST, Slickboom.EAST, Slickboom.SOUTH};
        for (int shore = 0; shore < 24; shore++) {
            int lowest = -1;
            for (int way : upwards) {
                lowest = lowest < 0 ? Bays.beside(shore, way) : lowest;
            }
            for (int way = Slickboom.EAST; way <= Slickboom.NORTH; way++) {
                int from = Bays.beside(shore, back[way]);
                if (from >= 0) {
                    Slickboom x = filled(shore, from, way);
                    Check.is("9: full, " + shore, x.at(shore, 2), 200);
                    Check.is("9: two birds, " + shore, x.at(shore, 6), 2);
                    Check.is("9: no signatures, " + shore, x.at(shore, 7), 0);
                    Check.is("9: counted, " + shore, x.sum(7), 200);
                    x.pass(4);
                    Slickboom y = filled(shore, from, way);
                    y.pass(5);
                    Check.is("9: given back by " + shore, y.at(shore, 2), 160);
                    for (int cell = 0; cell < 24; cell++) {
                        Check.is("31: " + cell + " by " + shore, x.nextAnew(cell), y.at(cell, 0) + y.at(cell, 1) + y.at(cell, 2));
                        if (cell != from && cell != shore) {
                            Check.is("9: to " + cell + " by " + shore, y.at(cell, 1), cell == lowest ? 40 : 0);
                        }
                    }
                }
            }
        }
    }

    /** Promise 9: "Of the FRESH oil of each CELL a twentieth goes into the AIR", "A SKIMMER takes from its CELL" */
    private static void everyWater() {
        for (int cell = 0; cell < 24; cell++) {
            Slickboom x = new Slickboom();
            Bays.leak(x, cell, 526);
            x.skimmer(cell, 100, 5000);
            x.pass(1);
            Check.is("9: FRESH in " + cell, x.at(cell, 0), 350);
            Check.is("9: THICK in " + cell, x.at(cell, 1), 49);
            Check.is("9: AIR of " + cell, x.sum(4), 26);
            Check.is("9: SUNK of " + cell, x.sum(5), 1);
            Check.is("9: skimmed in " + cell, x.meanIs(0, 3), 100);
            Check.is("32: all that floats, in " + cell, x.sum(3), 399);
            Check.is("32: in stores", x.sum(8), 100);
        }
    }
}
