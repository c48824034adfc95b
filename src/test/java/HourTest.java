import java.util.function.Supplier;

/** Promise 9: how an HOUR passes, step by step. */
public final class HourTest {
    public static void main(String[] args) {
        hoursPass();
        hoursInRange();
        hourAbove2000();
        stepsOneAfterTheOther();
        meansByRisingNumbers();
        theHourIsOneMore();
        tides();
        leaksAboveTheTide();
        levels();
        leaksByRateAndLevel();
        leaksNoMoreThanItHas();
        shipsLeakIntoTheirCells();
        goesIntoTheAir();
        becomesThick();
        sinks();
        strandedOilDoesNotWeather();
        ways();
        driftsByTheStrength();
        driftsAllAtOnce();
        driftsOut();
        driftsFromWaterAlone();
        shoreHolds();
        shoreHoldsFreshAheadOfThick();
        shoreHoldsWithWhatIsThere();
        boomByStrengths();
        boomHolds();
        boomBreaks();
        boomThatIsBroken();
        boomElsewhere();
        boomWhereNoLitreWouldGo();
        boomAtAShore();
        givesBackAtTheTide6();
        givesBackAPart();
        givesBackToTheLowest();
        skimsFreshByItsRate();
        skimsFreshByItsStore();
        skimsThickByHalfOfWhatIsLeft();
        skimsThickByItsStore();
        skimsItsCell();
        oilsByHundreds();
        oilsAsFarAsThereAreBirds();
        losesSignatures();
        roundsDown();
        Check.end();
    }

    // ---- pass

    /** Promise 9: "Lets HOURS pass.", "Returns the HOUR then." */
    private static void hoursPass() {
        Slickboom x = new Slickboom();
        Check.is("9: 1", x.pass(1), 1);
        Check.is("9: 7 more", x.pass(7), 8);
        Check.is("9: the HOUR", x.sum(0), 8);
        for (int hours = 2; hours <= 6; hours++) {
            int many = hours;
            Twins.alike("9: " + hours + " HOURS are as many of 1", () -> {
                Slickboom y = Bays.busy();
                y.pass(many);
                return y;
            }, () -> {
                Slickboom y = Bays.busy();
                for (int i = 0; i < many; i++) {
                    y.pass(1);
                }
                return y;
            });
        }
    }

    /** Promise 9: "hours: 1 to 48", "Throws IllegalArgumentException if hours is out of range" */
    private static void hoursInRange() {
        Slickboom x = new Slickboom();
        Check.is("9: the least", x.pass(1), 1);
        Check.is("9: the most", x.pass(48), 49);
        Refused.ranges("9: hours", 1, 48, Bays::busy, (y, hours) -> y.pass(hours));
    }

    private static Supplier<Slickboom> atHour(int hour) {
        return () -> {
            Slickboom x = new Slickboom();
            x.ship(7, 3000);
            while (x.sum(0) + 48 <= hour) {
                x.pass(48);
            }
            if (x.sum(0) < hour) {
                x.pass(hour - x.sum(0));
            }
            x.hole(0, 7);
            return x;
        };
    }

    /** Promise 9: "Throws IllegalStateException if it would be above 2000" */
    private static void hourAbove2000() {
        Check.is("9: 1952 and 48", atHour(1952).get().pass(48), 2000);
        Refused.state("9: 1953 and 48", atHour(1953), x -> x.pass(48));
        Check.is("9: 1953 and 47", atHour(1953).get().pass(47), 2000);
        Check.is("9: 1999 and 1", atHour(1999).get().pass(1), 2000);
        Refused.state("9: 1999 and 2", atHour(1999), x -> x.pass(2));
        Refused.state("9: 2000 and 1", atHour(2000), x -> x.pass(1));
        Refused.state("9: 2000 and 48", Bays::late, x -> x.pass(48));
    }

    // ---- the steps

    /** Promise 9: "In an HOUR that passes, these steps are done, one after the other" */
    private static void stepsOneAfterTheOther() {
        // 1, 2: the TIDE of the HOUR that comes: a LEVEL of 1 is above that of the HOUR 0, not of the HOUR 1
        Slickboom x = new Slickboom();
        x.hole(x.ship(0, 1000), 5);
        x.pass(1);
        Check.is("9: 1 ahead of 2", x.sum(1), 0);
        // 2, 3: what leaks goes into the AIR; 3, 4: of 20 so 18 are left to drift, 16 of them by the WIND 9
        Slickboom y = new Slickboom();
        Bays.leak(y, 14, 20);
        y.wind(Slickboom.EAST, 9);
        y.skimmer(15, 10, 10);
        y.pass(1);
        Check.is("9: 2 ahead of 3", y.sum(4), 1);
        Check.is("9: 3 ahead of 4", y.at(14, 0), 2);
        Check.is("9: 4 ahead of 6", y.at(15, 0), 16 - 10);
        Check.is("9: a SKIMMER has what came", y.meanIs(0, 3), 10);
        // 4, 5, 6: 20 litres strand in the HOUR 6, 4 of them come back, and a SKIMMER takes half of its rate
        Slickboom z = strandsInHour6(20);
        Check.is("9: 4 ahead of 5", z.at(8, 2), 16);
        Check.is("9: 5 ahead of 6", z.meanIs(0, 3), 3);
        Check.is("9: what is left of it", z.at(2, 1), 1);
        // 5, 7: a twentieth of what ROCK holds is 10 litres, which 12 are above, but not behind the 2 given back
        Check.is("9: 12 less 2", strandsInHour6(12).at(8, 2), 10);
        Check.is("9: 5 ahead of 7", strandsInHour6(12).at(8, 7), 2);
        Check.is("9: 13 less 2", strandsInHour6(13).at(8, 2), 11);
        Check.is("9: that is too much", strandsInHour6(13).at(8, 7), 0);
        // 5, 7: 124 litres less 24 oil a bird, 123 less 24 do not
        for (int stranded = 123; stranded <= 124; stranded++) {
            Slickboom u = Bays.blown(Slickboom.ROCK, stranded);
            u.birds(8, 100);
            u.pass(4);
            Check.is("9: a bird in each of 4 HOURS", u.at(8, 6), 4);
            u.pass(1);
            Check.is("9: one more in the HOUR 6, by " + stranded, u.at(8, 6), stranded == 123 ? 4 : 5);
        }
    }

    /** At the HOUR 6, in which just so many litres went to the SHORE 8, signed; a SKIMMER of the rate 6 is in the CELL 2. */
    private static Slickboom strandsInHour6(int litres) {
        Slickboom x = new Slickboom();
        x.shore(8, Slickboom.ROCK);
        x.sign(8, 1);
        x.skimmer(2, 6, 100);
        // a LEVEL of 7 is 1 above the TIDE 6
        x.ship(7, 7000);
        x.pass(5);
        x.hole(0, Bays.leakThatBlows(litres, 9));
        x.wind(Slickboom.EAST, 9);
        x.pass(1);
        return x;
    }

    /** Promise 9: "in each of them SHIPS, CELLS, means by rising numbers:" */
    private static void meansByRisingNumbers() {
        // 300 FRESH and 33 THICK: the first takes 200, the second 100 and half of 20
        Slickboom x = new Slickboom();
        Bays.leak(x, 14, 350);
        x.skimmer(14, 200, 5000);
        x.skimmer(14, 120, 5000);
        x.pass(1);
        Check.is("9: the first SKIMMER", x.meanIs(0, 3), 200);
        Check.is("9: the second", x.meanIs(1, 3), 110);
        Slickboom y = new Slickboom();
        Bays.leak(y, 14, 350);
        y.skimmer(3, 120, 5000);
        y.skimmer(14, 200, 5000);
        y.move(0, 14);
        y.pass(1);
        Check.is("9: the first, though it came later", y.meanIs(0, 3), 120);
        Check.is("9: the second takes 180 and half of 20", y.meanIs(1, 3), 190);
        // SHIPS: both leak, the lower number does not hinder the other
        Check.is("9: all leaks", x.sum(1), 350);
    }

    // ---- 1, 2: the HOUR, leaks

    /** Promise 9: "The HOUR is 1 more." */
    private static void theHourIsOneMore() {
        Slickboom x = new Slickboom();
        for (int hour = 1; hour <= 60; hour++) {
            x.pass(1);
            Check.is("9: the HOUR", x.sum(0), hour);
        }
    }

    /** Promise 9: "The TIDE of an HOUR is the remainder of the HOUR by 12, if that is 6 or less, otherwise 12 less that." */
    private static void tides() {
        int[] tide = {0, 1, 2, 3, 4, 5, 6, 5, 4, 3, 2, 1};
        Slickboom x = new Slickboom();
        x.hole(x.ship(0, 100000), 1);
        int has = 100000;
        for (int hour = 1; hour <= 38; hour++) {
            x.pass(1);
            has -= has / 1000 - tide[hour % 12];
            Check.is("9: the TIDE of the HOUR " + hour, x.shipHas(0), has);
        }
    }

    /** Promise 9: "A SHIP whose LEVEL is above the TIDE leaks" */
    private static void leaksAboveTheTide() {
        int[] tide = {0, 1, 2, 3, 4, 5, 6, 5, 4, 3, 2, 1, 0, 1};
        for (int hour = 1; hour <= 13; hour++) {
            for (int level = 0; level <= 8; level++) {
                Slickboom x = new Slickboom();
                x.ship(0, 1000 * level + 999);
                if (hour > 1) {
                    x.pass(hour - 1);
                }
                x.hole(0, 1);
                x.pass(1);
                int due = level > tide[hour] ? level - tide[hour] : 0;
                Check.is("9: the LEVEL " + level + " at the HOUR " + hour, x.sum(1), due);
            }
        }
    }

    /** Promise 9: "The LEVEL of a SHIP is its litres by 1000." */
    private static void levels() {
        int[] litres = {0, 999, 1000, 1999, 2000, 2999, 3000, 99999, 100000};
        int[] leaks = {0, 0, 0, 0, 10, 10, 20, 980, 990};
        for (int i = 0; i < litres.length; i++) {
            Slickboom x = new Slickboom();
            x.hole(x.ship(0, litres[i]), 10);
            x.pass(1);
            Check.is("9: the LEVEL of " + litres[i] + " above the TIDE 1", x.sum(1), leaks[i]);
            Check.is("9: is left", x.shipHas(0), litres[i] - leaks[i]);
        }
    }

    /** Promise 9: "its rate times what the LEVEL is above that" */
    private static void leaksByRateAndLevel() {
        for (int rate = 0; rate <= 99; rate++) {
            Slickboom x = new Slickboom();
            x.hole(x.ship(0, 2000), rate);
            x.hole(x.ship(6, 100000), rate);
            x.pass(1);
            Check.is("9: 1 above", x.shipHas(0), 2000 - rate);
            Check.is("9: 99 above", x.shipHas(1), 100000 - 99 * rate);
        }
    }

    /** Promise 9: "but not more than it has" */
    private static void leaksNoMoreThanItHas() {
        // a rate of 99 never comes to that: for each LEVEL that it takes 99 litres by, there are 1000
        for (int litres = 900; litres <= 1200; litres += 50) {
            Slickboom x = new Slickboom();
            x.ship(0, litres);
            x.pass(11);
            x.hole(0, 99);
            x.pass(1);
            Check.is("9: at the TIDE 0", x.shipHas(0), litres < 1000 ? litres : litres - 99);
        }
        Slickboom x = new Slickboom();
        x.hole(x.ship(0, 100000), 99);
        for (int i = 0; i < 40; i++) {
            x.pass(48);
            Check.is("9: it keeps what is below the LEVEL 1", x.shipHas(0) >= 901, true);
            Check.is("9: nothing is lost", x.shipHas(0) + x.sum(1), 100000);
        }
        Check.is("9: and leaks no more then", x.shipHas(0) < 1000, true);
    }

    /** Promise 9: "is FRESH oil of its CELL then." */
    private static void shipsLeakIntoTheirCells() {
        Slickboom x = new Slickboom();
        x.hole(x.ship(2, 3000), 3);
        x.hole(x.ship(23, 2000), 9);
        x.hole(x.ship(2, 2000), 2);
        x.pass(1);
        Check.is("9: 6 and 2 of two SHIPS", x.at(2, 0), 8);
        Check.is("9: 9 of another one", x.at(23, 0), 9);
        Check.is("9: nothing is THICK", x.at(2, 1) + x.at(23, 1), 0);
        Check.is("9: all that leaked", x.sum(1), 17);
    }

    // ---- 3: what the weather does

    /** Promise 9: "Of the FRESH oil of each CELL a twentieth goes into the AIR" */
    private static void goesIntoTheAir() {
        for (int leaked = 0; leaked <= 130; leaked++) {
            Slickboom x = Bays.floating(9, leaked);
            Check.is("9: AIR of " + leaked, x.sum(4), leaked / 20);
            Check.is("9: the rest floats", x.sum(3), leaked - leaked / 20);
        }
        Slickboom x = new Slickboom();
        Bays.leak(x, 3, 39);
        x.hole(x.ship(4, 2000), 39);
        x.pass(1);
        Check.is("9: of each CELL 1, of both together it would be 3", x.sum(4), 2);
    }

    /** Promise 9: "of the FRESH oil that is left a tenth becomes THICK" */
    private static void becomesThick() {
        // leaked, FRESH, THICK: 9 are too few, of 20 one is in the AIR
        int[][] due = {{9, 9, 0}, {10, 9, 1}, {19, 18, 1}, {20, 18, 1}, {21, 18, 2}, {30, 27, 2}, {31, 27, 3}};
        for (int[] row : due) {
            Slickboom x = Bays.floating(9, row[0]);
            Check.is("9: FRESH of " + row[0], x.at(9, 0), row[1]);
            Check.is("9: THICK of " + row[0], x.at(9, 1), row[2]);
        }
    }

    /** Promise 9: "of the THICK oil, that with it, a fiftieth is SUNK." */
    private static void sinks() {
        // 525 leaked: 26 AIR, 499 are left, 49 become THICK; 526: 26 AIR, 500 are left, 50 become THICK
        Slickboom below = Bays.floating(9, 525);
        Check.is("9: none of 49", below.sum(5), 0);
        Check.is("9: 49 THICK", below.at(9, 1), 49);
        Slickboom just = Bays.floating(9, 526);
        Check.is("9: one of 50", just.sum(5), 1);
        Check.is("9: 49 THICK are left", just.at(9, 1), 49);
        Check.is("9: it is no FRESH oil", just.at(9, 0), 450);
        // 49 THICK with 9 FRESH, of which none becomes THICK, or with 10, of which one does
        for (int fresh = 9; fresh <= 10; fresh++) {
            Slickboom x = new Slickboom();
            Bays.leak(x, 9, 525);
            x.skimmer(9, 450 - fresh, 450 - fresh);
            x.pass(1);
            Check.is("9: 49 THICK", x.at(9, 1), 49);
            Check.is("9: FRESH", x.at(9, 0), fresh);
            Bays.stop(x);
            x.pass(1);
            Check.is("9: SUNK, that with it", x.sum(5), fresh == 9 ? 0 : 1);
            Check.is("9: THICK", x.at(9, 1), 49);
        }
        // of each CELL: two with 49 are not one with 98
        Slickboom y = new Slickboom();
        Bays.leak(y, 9, 525);
        y.hole(y.ship(10, 100000), 5);
        y.hole(y.ship(10, 2000), 30);
        y.pass(1);
        Check.is("9: 525 leaked into both", y.sum(1), 1050);
        Check.is("9: none of 49 in each", y.sum(5), 0);
    }

    /** Promise 9: "FRESH and THICK oil floats on WATER; a SHORE has STRANDED oil." */
    private static void strandedOilDoesNotWeather() {
        Slickboom x = Bays.blown(Slickboom.MARSH, 1000);
        for (int hour = 2; hour <= 30; hour++) {
            x.pass(1);
            Check.is("9: it does not go into the AIR", x.at(8, 2), 1000);
            Check.is("9: it floats not", x.at(8, 0) + x.at(8, 1), 0);
        }
    }

    // ---- 4: the drift

    private static int beside(int cell, int way) {
        int row = cell / 6 + (way == Slickboom.SOUTH ? 1 : way == Slickboom.NORTH ? -1 : 0);
        int column = cell % 6 + (way == Slickboom.EAST ? 1 : way == Slickboom.WEST ? -1 : 0);
        return row < 0 || row > 3 || column < 0 || column > 5 ? -1 : 6 * row + column;
    }

    /** Promise 9: "The ways are EAST, to the COLUMN 1 more, WEST, to that 1 less, SOUTH, to the ROW 1 more, NORTH, to that 1 less; a way may lead out of the bay." */
    private static void ways() {
        for (int cell = 0; cell < 24; cell++) {
            for (int way = Slickboom.EAST; way <= Slickboom.NORTH; way++) {
                Slickboom x = new Slickboom();
                Bays.leak(x, cell, 20);
                x.wind(way, 5);
                x.pass(1);
                int to = beside(cell, way);
                Check.is("9: stays in " + cell, x.at(cell, 0), 9);
                Check.is("9: OUT of " + cell + " by " + way, x.sum(6), to < 0 ? 9 : 0);
                Check.is("9: floats", x.sum(3), to < 0 ? 10 : 19);
                if (to >= 0) {
                    Check.is("9: from " + cell + " by " + way, x.at(to, 0), 9);
                }
            }
        }
    }

    /** Promise 9: "from each CELL that is WATER the FRESH and the THICK oil, each times the strength of the WIND, by 10, go by the way of the WIND", "to WATER it floats on that, FRESH and THICK as it was" */
    private static void driftsByTheStrength() {
        // 350 leaked: 300 FRESH and 33 THICK; 52 leaked: 45 and 5; 9 leaked: 9; 11 leaked: 10 and 1
        int[] leaked = {350, 52, 9, 11};
        int[] fresh = {300, 45, 9, 10};
        int[] thick = {33, 5, 0, 1};
        for (int i = 0; i < leaked.length; i++) {
            for (int strength = 0; strength <= 9; strength++) {
                Slickboom x = new Slickboom();
                Bays.leak(x, 14, leaked[i]);
                x.wind(Slickboom.SOUTH, strength);
                x.pass(1);
                String what = "9: of " + leaked[i] + " by the strength " + strength;
                Check.is(what + " FRESH goes", x.at(20, 0), fresh[i] * strength / 10);
                Check.is(what + " THICK goes", x.at(20, 1), thick[i] * strength / 10);
                Check.is(what + " FRESH stays", x.at(14, 0), fresh[i] - fresh[i] * strength / 10);
                Check.is(what + " THICK stays", x.at(14, 1), thick[i] - thick[i] * strength / 10);
            }
        }
    }

    /** Promise 9: "The oil drifts, all at once" */
    private static void driftsAllAtOnce() {
        int[][] rows = {{8, 9, 10}, {9, 8, 7}, {8, 14, 20}, {14, 8, 2}};
        for (int way = 0; way < 4; way++) {
            Slickboom x = new Slickboom();
            Bays.leak(x, rows[way][0], 350);
            x.hole(x.ship(rows[way][1], 8000), 50);
            x.wind(way, 9);
            x.pass(1);
            Check.is("9: the first keeps a tenth", x.at(rows[way][0], 0), 30);
            Check.is("9: the second has a tenth of its own, and the first's", x.at(rows[way][1], 0), 300);
            Check.is("9: the third has the second's alone", x.at(rows[way][2], 0), 270);
        }
    }

    /** Promise 9: "out of the bay it is OUT" */
    private static void driftsOut() {
        int[] from = {11, 12, 19, 4};
        for (int way = 0; way < 4; way++) {
            Slickboom x = new Slickboom();
            Bays.leak(x, from[way], 350);
            x.wind(way, 3);
            x.pass(1);
            Check.is("9: OUT, FRESH and THICK", x.sum(6), 99);
            Check.is("9: FRESH stays", x.at(from[way], 0), 210);
            Check.is("9: THICK stays", x.at(from[way], 1), 24);
            Check.is("9: it floats nowhere else", x.sum(3), 234);
        }
    }

    /** Promise 9: "from each CELL that is WATER" */
    private static void driftsFromWaterAlone() {
        for (int way = 0; way < 4; way++) {
            Slickboom x = Bays.blown(Slickboom.MARSH, 900);
            x.wind(way, 9);
            x.pass(1);
            Check.is("9: STRANDED oil stays by " + way, x.at(8, 2) >= 900, true);
            int beyond = beside(8, way);
            if (beyond != 7) {
                Check.is("9: nothing goes beyond the SHORE", x.at(beyond, 0) + x.at(beyond, 1), 0);
            }
        }
    }

    /** Promise 9: "or a SHORE: ROCK, SAND or MARSH, by whose kind it holds 200, 500 or 1000 litres.", "as far as that holds it", "what it does not hold stays where it was." */
    private static void shoreHolds() {
        int[] holds = {0, 200, 500, 1000};
        for (int kind = Slickboom.ROCK; kind <= Slickboom.MARSH; kind++) {
            int most = holds[kind];
            for (int litres = most - 2; litres <= most + 2; litres++) {
                Slickboom x = Bays.blown(kind, litres);
                int all = x.sum(1) - x.sum(4) - x.sum(5);
                Check.is("9: the kind " + kind + " by " + litres, x.at(8, 2), Math.min(litres, most));
                Check.is("9: the rest stays", x.at(7, 0) + x.at(7, 1), all - Math.min(litres, most));
                Check.is("9: the rest is nowhere else", x.sum(3), all - Math.min(litres, most));
            }
            Slickboom much = new Slickboom();
            much.shore(8, kind);
            Bays.leak(much, 7, 9899);
            much.wind(Slickboom.EAST, 9);
            much.pass(1);
            Check.is("9: full", much.at(8, 2), most);
            much.pass(3);
            Check.is("9: full still", much.at(8, 2), most);
            Check.is("9: nothing is OUT", much.sum(6), 0);
        }
        Slickboom none = Bays.blown(Slickboom.ROCK, 0);
        Check.is("9: an empty SHORE", none.at(8, 2), 0);
        Check.is("9: of one litre", Bays.blown(Slickboom.ROCK, 1).at(8, 2), 1);
    }

    /** Promise 9: "to a SHORE it is STRANDED, FRESH ahead of THICK" */
    private static void shoreHoldsFreshAheadOfThick() {
        for (int leaked = 180; leaked <= 270; leaked++) {
            Slickboom x = new Slickboom();
            x.shore(8, Slickboom.ROCK);
            Bays.leak(x, 7, leaked);
            x.wind(Slickboom.EAST, 9);
            x.pass(1);
            int fresh = Math.min(Bays.freshOf(leaked) * 9 / 10, 200);
            int thick = Math.min(Bays.thickOf(leaked) * 9 / 10, 200 - fresh);
            Check.is("9: FRESH stays, of " + leaked, x.at(7, 0), Bays.freshOf(leaked) - fresh);
            Check.is("9: THICK stays, of " + leaked, x.at(7, 1), Bays.thickOf(leaked) - thick);
            Check.is("9: STRANDED, of " + leaked, x.at(8, 2), fresh + thick);
        }
    }

    /** Promise 9: "with what is STRANDED there ahead of it" */
    private static void shoreHoldsWithWhatIsThere() {
        // more than 10 litres would go in the second HOUR
        for (int there = 190; there <= 200; there++) {
            Slickboom x = Bays.blown(Slickboom.ROCK, there);
            x.wind(Slickboom.EAST, 9);
            int before = x.at(7, 0) + x.at(7, 1);
            int air = x.sum(4);
            x.pass(1);
            Check.is("9: 200 with " + there + " there", x.at(8, 2), 200);
            Check.is("9: what it does not hold stays", x.at(7, 0) + x.at(7, 1),
                    before - (x.sum(4) - air) - (200 - there));
        }
    }

    // ---- 4: BOOMS

    /** Promise 9: "with a strength of that of the WIND, or more, nothing goes; otherwise it is BROKEN by that, and all goes as without it." */
    private static void boomByStrengths() {
        for (int boom = 1; boom <= 9; boom++) {
            for (int wind = 0; wind <= 9; wind++) {
                Slickboom x = new Slickboom();
                Bays.leak(x, 14, 350);
                x.boom(14, Slickboom.EAST, boom);
                x.wind(Slickboom.EAST, wind);
                x.pass(1);
                boolean isHeld = boom >= wind;
                String what = "9: a BOOM of " + boom + " by a WIND of " + wind;
                Check.is(what + ", BROKEN", x.meanIs(0, 3), isHeld ? 0 : 1);
                Check.is(what + ", FRESH came", x.at(15, 0), isHeld ? 0 : 30 * wind);
                Check.is(what + ", THICK came", x.at(15, 1), isHeld ? 0 : 33 * wind / 10);
                Check.is(what + ", FRESH stayed", x.at(14, 0), isHeld ? 300 : 300 - 30 * wind);
            }
        }
    }

    /** Promise 9: "If there is a BOOM on the border, not BROKEN, over which any oil would go so" */
    private static void boomHolds() {
        int[] cells = {15, 13, 20, 8};
        int[] back = {Slickboom.WEST, Slickboom.EAST, Slickboom.NORTH, Slickboom.SOUTH};
        for (int way = 0; way < 4; way++) {
            for (int told = 0; told < 2; told++) {
                Slickboom x = new Slickboom();
                Bays.leak(x, 14, 350);
                x.boom(told == 0 ? 14 : cells[way], told == 0 ? way : back[way], 5);
                x.wind(way, 5);
                x.pass(1);
                Check.is("9: nothing goes by " + way, x.at(14, 0), 300);
                Check.is("9: nothing comes by " + way, x.at(cells[way], 0), 0);
                Check.is("9: it is not BROKEN", x.meanIs(0, 3), 0);
                x.wind(way, 6);
                x.pass(1);
                Check.is("9: BROKEN by a stronger WIND", x.meanIs(0, 3), 1);
                Check.is("9: it comes then", x.at(cells[way], 0) > 0, true);
            }
        }
        int[] ends = {17, 12, 20, 2};
        for (int way = 0; way < 4; way++) {
            Slickboom x = new Slickboom();
            Bays.leak(x, ends[way], 350);
            x.boom(ends[way], way, 9);
            x.wind(way, 9);
            x.pass(1);
            Check.is("9: nothing is OUT by " + way, x.sum(6), 0);
            Check.is("9: it stays in the bay", x.at(ends[way], 0), 300);
        }
    }

    /** Promise 9: "otherwise it is BROKEN by that" */
    private static void boomBreaks() {
        // one litre is enough: of 2 by the strength 5
        Slickboom one = new Slickboom();
        one.hole(one.ship(0, 2000), 2);
        one.boom(0, Slickboom.EAST, 4);
        one.wind(Slickboom.EAST, 5);
        one.pass(1);
        Check.is("9: one litre goes", one.at(1, 0), 1);
        Check.is("9: and breaks", one.meanIs(0, 3), 1);
        // 33 THICK litres alone: the FRESH ones are skimmed
        Slickboom thick = new Slickboom();
        Bays.leak(thick, 0, 350);
        thick.skimmer(0, 300, 300);
        thick.pass(1);
        Bays.stop(thick);
        thick.boom(1, Slickboom.WEST, 1);
        thick.wind(Slickboom.EAST, 2);
        thick.pass(1);
        Check.is("9: THICK oil goes", thick.at(1, 1), 6);
        Check.is("9: and breaks", thick.meanIs(1, 3), 1);
        // out of the bay, too
        Slickboom out = new Slickboom();
        Bays.leak(out, 5, 350);
        out.boom(5, Slickboom.NORTH, 2);
        out.wind(Slickboom.NORTH, 3);
        out.pass(1);
        Check.is("9: BROKEN at the end of the bay", out.meanIs(0, 3), 1);
        Check.is("9: OUT", out.sum(6), 99);
    }

    /** Promise 9: "a BOOM on the border, not BROKEN" */
    private static void boomThatIsBroken() {
        Slickboom x = new Slickboom();
        Bays.leak(x, 14, 350);
        x.boom(14, Slickboom.EAST, 5);
        x.wind(Slickboom.EAST, 6);
        x.pass(1);
        Check.is("9: BROKEN", x.meanIs(0, 3), 1);
        Bays.stop(x);
        x.wind(Slickboom.EAST, 5);
        x.pass(1);
        // 120 in 14: 6 AIR, 11 thicken, 51 of 103 go; 180 in 15: 9 AIR, 17 thicken, 77 of 154 go
        Check.is("9: BROKEN it holds nothing of a WIND that it would have held", x.at(14, 0), 103 - 51);
        Check.is("9: what came", x.at(15, 0), 154 - 77 + 51);
        Check.is("9: it stays BROKEN", x.meanIs(0, 3), 1);
        x.boom(15, Slickboom.WEST, 5);
        int there = x.at(14, 0);
        x.pass(1);
        Check.is("9: a new one there holds", x.at(14, 0), there - there / 20 - (there - there / 20) / 10);
        Check.is("9: the old one is BROKEN", x.meanIs(0, 3), 1);
        Check.is("9: the new one is not", x.meanIs(1, 3), 0);
        x.wind(Slickboom.EAST, 9);
        x.pass(1);
        Check.is("9: the new one is BROKEN, too", x.meanIs(1, 3), 1);
    }

    /** Promise 9: "on the border, not BROKEN, over which any oil would go so" */
    private static void boomElsewhere() {
        Slickboom x = new Slickboom();
        Bays.leak(x, 14, 350);
        x.boom(14, Slickboom.WEST, 1);
        x.boom(14, Slickboom.NORTH, 1);
        x.boom(14, Slickboom.SOUTH, 1);
        x.boom(13, Slickboom.NORTH, 1);
        x.boom(20, Slickboom.EAST, 1);
        x.boom(8, Slickboom.EAST, 1);
        x.boom(15, Slickboom.EAST, 1);
        x.boom(17, Slickboom.EAST, 1);
        x.wind(Slickboom.EAST, 9);
        x.pass(1);
        for (int boom = 0; boom < 8; boom++) {
            Check.is("9: no oil goes over the BOOM " + boom, x.meanIs(boom, 3), 0);
        }
        Check.is("9: none hinders it", x.at(15, 0), 270);
        x.pass(1);
        Check.is("9: now over that one", x.meanIs(6, 3), 1);
        Check.is("9: still not over that one", x.meanIs(7, 3), 0);
        // the ends of two ROWS have a border each
        Slickboom y = new Slickboom();
        Bays.leak(y, 11, 350);
        y.boom(12, Slickboom.WEST, 9);
        y.wind(Slickboom.EAST, 3);
        y.pass(1);
        Check.is("9: the begin of the next ROW is no matter", y.sum(6), 99);
    }

    /** Promise 9: "(Where no litre would go, as with a SHORE that is full, no BOOM breaks.)" */
    private static void boomWhereNoLitreWouldGo() {
        // 1 litre by the strength 9 is none, 2 litres are one
        for (int litres = 1; litres <= 2; litres++) {
            Slickboom x = new Slickboom();
            x.hole(x.ship(0, 2000), litres);
            x.boom(0, Slickboom.EAST, 1);
            x.wind(Slickboom.EAST, 9);
            x.pass(1);
            Check.is("9: FRESH came", x.at(1, 0), litres - 1);
            Check.is("9: BROKEN by " + litres, x.meanIs(0, 3), litres - 1);
        }
        // 9 litres by the strength 1 are none, 10 are one: but such a WIND no BOOM is too weak for
        Slickboom empty = new Slickboom();
        empty.boom(0, Slickboom.EAST, 1);
        empty.wind(Slickboom.EAST, 9);
        empty.pass(48);
        Check.is("9: without oil", empty.meanIs(0, 3), 0);
        // FRESH and THICK, each by itself: 1 and 1 by the strength 9 are none
        Slickboom both = new Slickboom();
        Bays.leak(both, 0, 11);
        both.skimmer(0, 9, 9);
        both.pass(1);
        Check.is("9: 1 FRESH", both.at(0, 0), 1);
        Check.is("9: 1 THICK", both.at(0, 1), 1);
        Bays.stop(both);
        both.boom(0, Slickboom.EAST, 1);
        both.wind(Slickboom.EAST, 9);
        both.pass(1);
        Check.is("9: 1 and 1 go not", both.meanIs(1, 3), 0);
    }

    /** Promise 9: "as with a SHORE that is full, no BOOM breaks.", "and all goes as without it." */
    private static void boomAtAShore() {
        for (int there = 198; there <= 200; there++) {
            Slickboom x = Bays.blown(Slickboom.ROCK, there);
            x.boom(8, Slickboom.WEST, 4);
            x.wind(Slickboom.EAST, 5);
            x.pass(1);
            Check.is("9: a BOOM at a SHORE with " + there, x.meanIs(0, 3), there == 200 ? 0 : 1);
            Check.is("9: filled with " + there, x.at(8, 2), 200);
        }
        Slickboom held = Bays.blown(Slickboom.ROCK, 199);
        held.boom(7, Slickboom.EAST, 5);
        held.wind(Slickboom.EAST, 5);
        held.pass(1);
        Check.is("9: held ahead of a SHORE", held.at(8, 2), 199);
        Check.is("9: it is not BROKEN", held.meanIs(0, 3), 0);
    }

    // ---- 5: what comes back

    /** Promise 9: "If the TIDE is 6, each SHORE that has WATER beside it gives back a part of its STRANDED oil" */
    private static void givesBackAtTheTide6() {
        Slickboom x = Bays.blown(Slickboom.ROCK, 200);
        int has = 200;
        for (int hour = 2; hour <= 44; hour++) {
            x.pass(1);
            has -= hour % 12 == 6 ? has / 5 : 0;
            Check.is("9: STRANDED at the HOUR " + hour, x.at(8, 2), has);
        }
        // a SHORE among SHORES has no WATER from which oil could come to it, and gives none
        Slickboom y = new Slickboom();
        y.shore(0, Slickboom.ROCK);
        y.shore(1, Slickboom.ROCK);
        y.shore(6, Slickboom.ROCK);
        Bays.leak(y, 2, 9000);
        y.wind(Slickboom.WEST, 9);
        y.pass(5);
        Check.is("9: none behind a SHORE", y.at(0, 2), 0);
        y.wind(Slickboom.WEST, 0);
        y.pass(1);
        Check.is("9: the SHORE 1 gives to the CELL 2", y.at(1, 2), 160);
        Check.is("9: not to the SHORES beside it", y.at(0, 2) + y.at(7, 1), 0);
    }

    /** Promise 9: "ROCK a fifth, SAND a tenth, MARSH none: it is THICK oil" */
    private static void givesBackAPart() {
        int[] by = {0, 5, 10, 0};
        int[] holds = {0, 200, 500, 1000};
        for (int kind = Slickboom.ROCK; kind <= Slickboom.MARSH; kind++) {
            for (int litres = 0; litres <= holds[kind]; litres += litres < 41 ? 1 : 53) {
                Slickboom x = Bays.blown(kind, litres);
                x.pass(4);
                Check.is("9: STRANDED at the HOUR 5", x.at(8, 2), litres);
                x.pass(1);
                int back = by[kind] == 0 ? 0 : litres / by[kind];
                Check.is("9: the kind " + kind + " of " + litres, x.at(8, 2), litres - back);
                Check.is("9: THICK oil of the CELL 2", x.at(2, 1), back);
                Check.is("9: no FRESH oil", x.at(2, 0), 0);
            }
        }
    }

    /** Promise 9: "of the lowest CELL of these." */
    private static void givesBackToTheLowest() {
        int[] beside = {2, 7, 9, 14};
        int[] wayFrom = {Slickboom.SOUTH, Slickboom.EAST, Slickboom.WEST, Slickboom.NORTH};
        for (int water = 1; water < 16; water++) {
            int lowest = -1;
            Slickboom x = new Slickboom();
            x.shore(8, Slickboom.ROCK);
            int from = -1;
            for (int i = 0; i < 4; i++) {
                if ((water >> i) % 2 == 0) {
                    x.shore(beside[i], Slickboom.MARSH);
                } else {
                    lowest = lowest < 0 ? beside[i] : lowest;
                    from = i;
                }
            }
            Bays.leak(x, beside[from], 9000);
            x.wind(wayFrom[from], 9);
            x.pass(1);
            Bays.stop(x);
            x.wind(wayFrom[from], 0);
            x.pass(4);
            Check.is("9: full", x.at(8, 2), 200);
            int left = x.at(beside[from], 0) - x.at(beside[from], 0) / 20;
            int thick = x.at(beside[from], 1) + left / 10;
            x.pass(1);
            Check.is("9: given back", x.at(8, 2), 160);
            for (int i = 0; i < 4; i++) {
                int own = i == from ? thick - thick / 50 : 0;
                Check.is("9: to " + beside[i] + " of " + water, x.at(beside[i], 1), own + (beside[i] == lowest ? 40 : 0));
            }
        }
    }

    // ---- 6: SKIMMERS; 350 leaked litres are 300 FRESH and 33 THICK

    private static Slickboom skims(int rate, int store) {
        Slickboom x = new Slickboom();
        Bays.leak(x, 14, 350);
        x.skimmer(14, rate, store);
        x.pass(1);
        return x;
    }

    private static void left(String what, Slickboom x, int fresh, int thick) {
        Check.is("9: " + what + ", FRESH left", x.at(14, 0), fresh);
        Check.is("9: " + what + ", THICK left", x.at(14, 1), thick);
        Check.is("9: " + what + ", in its store", x.meanIs(0, 3), 333 - fresh - thick);
    }

    /** Promise 9: "A SKIMMER takes from its CELL as many litres of FRESH oil as its rate, or all, if there are fewer" */
    private static void skimsFreshByItsRate() {
        left("rate 1", skims(1, 5000), 299, 33);
        left("rate 299", skims(299, 5000), 1, 33);
        left("rate 300", skims(300, 5000), 0, 33);
        left("rate 301", skims(301, 5000), 0, 33);
        Slickboom none = new Slickboom();
        none.skimmer(14, 500, 5000);
        none.pass(1);
        Check.is("9: of no oil", none.meanIs(0, 3), 0);
    }

    /** Promise 9: "and as its store has room" */
    private static void skimsFreshByItsStore() {
        left("store 1", skims(300, 1), 299, 33);
        left("store 299", skims(300, 299), 1, 33);
        left("store 300", skims(300, 300), 0, 33);
        // what is in the store is room no more: 100, then 99, then 1, then none
        Slickboom x = new Slickboom();
        x.hole(x.ship(14, 100000), 90);
        x.skimmer(14, 100, 200);
        x.pass(1);
        Check.is("9: 100", x.meanIs(0, 3), 100);
        x.pass(1);
        Check.is("9: just full", x.meanIs(0, 3), 200);
        x.pass(1);
        Check.is("9: full", x.meanIs(0, 3), 200);
        x.carry(0);
        x.pass(1);
        Check.is("9: emptied, it takes again", x.meanIs(0, 3), 100);
        Slickboom y = new Slickboom();
        y.hole(y.ship(14, 100000), 90);
        y.skimmer(14, 100, 199);
        y.pass(2);
        Check.is("9: 99 in the second HOUR", y.meanIs(0, 3), 199);
    }

    /** Promise 9: "then of THICK oil the half of what is left of its rate, or all" */
    private static void skimsThickByHalfOfWhatIsLeft() {
        left("half of 0", skims(300, 5000), 0, 33);
        left("half of 1", skims(301, 5000), 0, 33);
        left("half of 2", skims(302, 5000), 0, 32);
        left("half of 3", skims(303, 5000), 0, 32);
        left("half of 65", skims(365, 5000), 0, 1);
        left("half of 66", skims(366, 5000), 0, 0);
        left("half of 68, but all", skims(368, 5000), 0, 0);
        left("half of 200, but all", skims(500, 5000), 0, 0);
        // THICK oil alone: half of the whole rate
        Slickboom x = skims(300, 300);
        Bays.stop(x);
        x.skimmer(14, 31, 100);
        x.pass(1);
        Check.is("9: half of 31", x.meanIs(1, 3), 15);
    }

    /** Promise 9: "or all, and as its store has room." */
    private static void skimsThickByItsStore() {
        left("no room for THICK", skims(500, 300), 0, 33);
        left("room for 1", skims(500, 301), 0, 32);
        left("room for 32", skims(500, 332), 0, 1);
        left("room for 33", skims(500, 333), 0, 0);
        left("room for 34", skims(500, 334), 0, 0);
        left("less room than half of its rate", skims(320, 305), 0, 28);
        left("as much room as half of its rate", skims(320, 310), 0, 23);
        left("more room than half of its rate", skims(320, 311), 0, 23);
    }

    /** Promise 9: "from its CELL" */
    private static void skimsItsCell() {
        for (int cell : new int[] {13, 15, 8, 20}) {
            Slickboom x = new Slickboom();
            Bays.leak(x, 14, 350);
            x.skimmer(cell, 500, 5000);
            x.pass(1);
            Check.is("9: not from beside it", x.meanIs(0, 3), 0);
            x.move(0, 14);
            Bays.stop(x);
            x.pass(1);
            Check.is("9: where it was sent", x.meanIs(0, 3) > 300, true);
        }
    }

    // ---- 7: birds, signatures

    /** Promise 9: "On a SHORE with 100 litres of STRANDED oil or more as many birds as hundreds of these become OILED" */
    private static void oilsByHundreds() {
        int[] litres = {0, 99, 100, 101, 199, 200, 299, 300, 999, 1000};
        int[] oiled = {0, 0, 1, 1, 1, 2, 2, 3, 9, 10};
        for (int i = 0; i < litres.length; i++) {
            Slickboom x = Bays.blown(Slickboom.MARSH, litres[i], y -> y.birds(8, 100));
            Check.is("9: OILED by " + litres[i], x.at(8, 6), oiled[i]);
            x.pass(1);
            Check.is("9: twice as many in the next HOUR, by " + litres[i], x.at(8, 6), 2 * oiled[i]);
            Check.is("9: birds stay", x.at(8, 5), 100);
        }
        Check.is("9: ROCK holds 200", Bays.blown(Slickboom.ROCK, 400, y -> y.birds(8, 9)).at(8, 6), 2);
        Check.is("9: SAND holds 500", Bays.blown(Slickboom.SAND, 600, y -> y.birds(8, 9)).at(8, 6), 5);
    }

    /** Promise 9: "as far as there are birds that are not." */
    private static void oilsAsFarAsThereAreBirds() {
        for (int birds = 1; birds <= 12; birds++) {
            int many = birds;
            Slickboom x = Bays.blown(Slickboom.SAND, 500, y -> y.birds(8, many));
            Check.is("9: of " + birds, x.at(8, 6), Math.min(birds, 5));
            x.pass(1);
            Check.is("9: then of " + birds, x.at(8, 6), Math.min(birds, 10));
            x.pass(1);
            Check.is("9: all of " + birds, x.at(8, 6), birds);
            Check.is("9: no birds are gone", x.at(8, 5), birds);
        }
        Check.is("9: of none", Bays.blown(Slickboom.SAND, 500).at(8, 6), 0);
    }

    /** Promise 9: "A SHORE with more than a twentieth of what it holds loses its signatures." */
    private static void losesSignatures() {
        int[] twentieth = {0, 10, 25, 50};
        for (int kind = Slickboom.ROCK; kind <= Slickboom.MARSH; kind++) {
            for (int more = -1; more <= 1; more++) {
                Slickboom x = Bays.blown(kind, twentieth[kind] + more, y -> {
                    y.shore(21, Slickboom.ROCK);
                    y.sign(21, 1);
                    y.sign(8, 0);
                    y.sign(8, 2);
                });
                String what = "9: the kind " + kind + " with " + x.at(8, 2);
                Check.is(what + ", signatures", x.at(8, 7), more > 0 ? 0 : 5);
                Check.is(what + ", CLEAN", x.at(8, 8), more > 0 ? 0 : 1);
                Check.is("9: those of another SHORE stay", x.at(21, 7), 2);
            }
        }
    }

    // ---- what is divided

    /** Promise 9: "What is divided is rounded down; nothing that is divided is below 0." */
    private static void roundsDown() {
        Check.is("9: 19 by 20 into the AIR", Bays.floating(9, 19).sum(4), 0);
        Check.is("9: 39 by 20 into the AIR", Bays.floating(9, 39).sum(4), 1);
        Check.is("9: 9 by 10 become THICK", Bays.floating(9, 9).at(9, 1), 0);
        Check.is("9: 49 by 50 are SUNK", Bays.floating(9, 525).sum(5), 0);
        Slickboom drift = new Slickboom();
        Bays.leak(drift, 9, 9);
        drift.wind(Slickboom.EAST, 7);
        drift.pass(1);
        Check.is("9: 63 by 10 drift", drift.at(10, 0), 6);
        Check.is("9: 1999 by 1000", levelOneAt(1999).sum(1), 0);
        // a TIDE above the LEVEL, a rate below the FRESH oil: neither is divided, none is below 0
        Slickboom low = new Slickboom();
        low.hole(low.ship(9, 3500), 50);
        low.pass(1);
        int leaked = low.sum(1);
        low.pass(2);
        low.pass(3);
        Check.is("9: a LEVEL far below the TIDE", low.sum(1), leaked + 50);
        left("a rate far below the FRESH oil", skims(10, 5000), 290, 33);
        left("a store far below the rate", skims(500, 7), 293, 33);
    }

    private static Slickboom levelOneAt(int litres) {
        Slickboom x = new Slickboom();
        x.hole(x.ship(9, litres), 50);
        x.pass(1);
        return x;
    }
}
