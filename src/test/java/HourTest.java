import java.util.function.Supplier;

/** Promise 9: HOURS pass, and the first steps of each: the TIDE, leaks, the weather. */
public final class HourTest {
    public static void main(String[] args) {
        hoursPass();
        hoursInRange();
        hourAbove2000();
        stepsOneAfterTheOther();
        meansByRisingNumbers();
        theHourIsOneMore();
        tides();
        leaksAboveTheTide();
        levels();
        leaksByRateAndLevel();
        leaksNoMoreThanItHas();
        shipsLeakIntoTheirCells();
        goesIntoTheAir();
        becomesThick();
        sinks();
        strandedOilDoesNotWeather();
        roundsDown();
        Check.end();
    }

    // ---- pass

    /** Promise 9: "Lets HOURS pass.", "Returns the HOUR then." */
    private static void hoursPass() {
        Slickboom x = new Slickboom();
        Check.is("9: 1", x.pass(1), 1);
        Check.is("9: 7 more", x.pass(7), 8);
        Check.is("9: the HOUR", x.sum(0), 8);
        for (int hours = 2; hours <= 6; hours++) {
            int many = hours;
            Twins.alike("9: " + hours + " HOURS are as many of 1", () -> {
                Slickboom y = Bays.busy();
                y.pass(many);
                return y;
            }, () -> {
                Slickboom y = Bays.busy();
                for (int i = 0; i < many; i++) {
                    y.pass(1);
                }
                return y;
            });
        }
    }

    /** Promise 9: "hours: 1 to 48", "Throws IllegalArgumentException if hours is out of range" */
    private static void hoursInRange() {
        Slickboom x = new Slickboom();
        Check.is("9: the least", x.pass(1), 1);
        Check.is("9: the most", x.pass(48), 49);
        Refused.ranges("9: hours", 1, 48, Bays::busy, (y, hours) -> y.pass(hours));
    }

    private static Supplier<Slickboom> atHour(int hour) {
        return () -> {
            Slickboom x = new Slickboom();
            x.ship(7, 3000);
            while (x.sum(0) + 48 <= hour) {
                x.pass(48);
            }
            if (x.sum(0) < hour) {
                x.pass(hour - x.sum(0));
            }
            x.hole(0, 7);
            return x;
        };
    }

    /** Promise 9: "Throws IllegalStateException if it would be above 2000" */
    private static void hourAbove2000() {
        Check.is("9: 1952 and 48", atHour(1952).get().pass(48), 2000);
        Refused.state("9: 1953 and 48", atHour(1953), x -> x.pass(48));
        Check.is("9: 1953 and 47", atHour(1953).get().pass(47), 2000);
        Check.is("9: 1999 and 1", atHour(1999).get().pass(1), 2000);
        Refused.state("9: 1999 and 2", atHour(1999), x -> x.pass(2));
        Refused.state("9: 2000 and 1", atHour(2000), x -> x.pass(1));
        Refused.state("9: 2000 and 48", Bays::late, x -> x.pass(48));
    }

    // ---- the steps

    /** Promise 9: "In an HOUR that passes, these steps are done, one after the other" */
    private static void stepsOneAfterTheOther() {
        // 1, 2: the TIDE of the HOUR that comes: a LEVEL of 1 is above that of the HOUR 0, not of the HOUR 1
        Slickboom x = new Slickboom();
        x.hole(x.ship(0, 1000), 5);
        x.pass(1);
        Check.is("9: 1 ahead of 2", x.sum(1), 0);
        // 2, 3: what leaks goes into the AIR; 3, 4: of 20 so 18 are left to drift, 16 of them by the WIND 9
        Slickboom y = new Slickboom();
        Bays.leak(y, 14, 20);
        y.wind(Slickboom.EAST, 9);
        y.skimmer(15, 10, 10);
        y.pass(1);
        Check.is("9: 2 ahead of 3", y.sum(4), 1);
        Check.is("9: 3 ahead of 4", y.at(14, 0), 2);
        Check.is("9: 4 ahead of 6", y.at(15, 0), 16 - 10);
        Check.is("9: a SKIMMER has what came", y.meanIs(0, 3), 10);
        // 4, 5, 6: 20 litres strand in the HOUR 6, 4 of them come back, and a SKIMMER takes half of its rate
        Slickboom z = strandsInHour6(20);
        Check.is("9: 4 ahead of 5", z.at(8, 2), 16);
        Check.is("9: 5 ahead of 6", z.meanIs(0, 3), 3);
        Check.is("9: what is left of it", z.at(2, 1), 1);
        // 5, 7: a twentieth of what ROCK holds is 10 litres, which 12 are above, but not behind the 2 given back
        Check.is("9: 12 less 2", strandsInHour6(12).at(8, 2), 10);
        Check.is("9: 5 ahead of 7", strandsInHour6(12).at(8, 7), 2);
        Check.is("9: 13 less 2", strandsInHour6(13).at(8, 2), 11);
        Check.is("9: that is too much", strandsInHour6(13).at(8, 7), 0);
        // 5, 7: 124 litres less 24 oil a bird, 123 less 24 do not
        for (int stranded = 123; stranded <= 124; stranded++) {
            Slickboom u = Bays.blown(Slickboom.ROCK, stranded);
            u.birds(8, 100);
            u.pass(4);
            Check.is("9: a bird in each of 4 HOURS", u.at(8, 6), 4);
            u.pass(1);
            Check.is("9: one more in the HOUR 6, by " + stranded, u.at(8, 6), stranded == 123 ? 4 : 5);
        }
    }

    /**
     * At the HOUR 6, in which just so many litres went to the SHORE 8, signed; a SKIMMER of the rate 6 is in the CELL
     * 2.
     */
    private static Slickboom strandsInHour6(int litres) {
        Slickboom x = new Slickboom();
        x.shore(8, Slickboom.ROCK);
        x.sign(8, 1);
        x.skimmer(2, 6, 100);
        // a LEVEL of 7 is 1 above the TIDE 6
        x.ship(7, 7000);
        x.pass(5);
        x.hole(0, Bays.leakThatBlows(litres, 9));
        x.wind(Slickboom.EAST, 9);
        x.pass(1);
        return x;
    }

    /** Promise 9: "in each of them SHIPS, CELLS, means by rising numbers:" */
    private static void meansByRisingNumbers() {
        // 300 FRESH and 33 THICK: the first takes 200, the second 100 and half of 20
        Slickboom x = new Slickboom();
        Bays.leak(x, 14, 350);
        x.skimmer(14, 200, 5000);
        x.skimmer(14, 120, 5000);
        x.pass(1);
        Check.is("9: the first SKIMMER", x.meanIs(0, 3), 200);
        Check.is("9: the second", x.meanIs(1, 3), 110);
        Slickboom y = new Slickboom();
        Bays.leak(y, 14, 350);
        y.skimmer(3, 120, 5000);
        y.skimmer(14, 200, 5000);
        y.move(0, 14);
        y.pass(1);
        Check.is("9: the first, though it came later", y.meanIs(0, 3), 120);
        Check.is("9: the second takes 180 and half of 20", y.meanIs(1, 3), 190);
        // SHIPS: both leak, the lower number does not hinder the other
        Check.is("9: all leaks", x.sum(1), 350);
    }

    // ---- 1, 2: the HOUR, leaks

    /** Promise 9: "The HOUR is 1 more." */
    private static void theHourIsOneMore() {
        Slickboom x = new Slickboom();
        for (int hour = 1; hour <= 60; hour++) {
            x.pass(1);
            Check.is("9: the HOUR", x.sum(0), hour);
        }
    }

    /**
     * Promise 9: "The TIDE of an HOUR is the remainder of the HOUR by 12, if that is 6 or less, otherwise 12 less
     * that."
     */
    private static void tides() {
        int[] tide = {0, 1, 2, 3, 4, 5, 6, 5, 4, 3, 2, 1};
        Slickboom x = new Slickboom();
        x.hole(x.ship(0, 100000), 1);
        int has = 100000;
        for (int hour = 1; hour <= 38; hour++) {
            x.pass(1);
            has -= has / 1000 - tide[hour % 12];
            Check.is("9: the TIDE of the HOUR " + hour, x.shipHas(0), has);
        }
    }

    /** Promise 9: "A SHIP whose LEVEL is above the TIDE leaks" */
    private static void leaksAboveTheTide() {
        int[] tide = {0, 1, 2, 3, 4, 5, 6, 5, 4, 3, 2, 1, 0, 1};
        for (int hour = 1; hour <= 13; hour++) {
            for (int level = 0; level <= 8; level++) {
                Slickboom x = new Slickboom();
                x.ship(0, 1000 * level + 999);
                if (hour > 1) {
                    x.pass(hour - 1);
                }
                x.hole(0, 1);
                x.pass(1);
                int due = level > tide[hour] ? level - tide[hour] : 0;
                Check.is("9: the LEVEL " + level + " at the HOUR " + hour, x.sum(1), due);
            }
        }
    }

    /** Promise 9: "The LEVEL of a SHIP is its litres by 1000." */
    private static void levels() {
        int[] litres = {0, 999, 1000, 1999, 2000, 2999, 3000, 99999, 100000};
        int[] leaks = {0, 0, 0, 0, 10, 10, 20, 980, 990};
        for (int i = 0; i < litres.length; i++) {
            Slickboom x = new Slickboom();
            x.hole(x.ship(0, litres[i]), 10);
            x.pass(1);
            Check.is("9: the LEVEL of " + litres[i] + " above the TIDE 1", x.sum(1), leaks[i]);
            Check.is("9: is left", x.shipHas(0), litres[i] - leaks[i]);
        }
    }

    /** Promise 9: "its rate times what the LEVEL is above that" */
    private static void leaksByRateAndLevel() {
        for (int rate = 0; rate <= 99; rate++) {
            Slickboom x = new Slickboom();
            x.hole(x.ship(0, 2000), rate);
            x.hole(x.ship(6, 100000), rate);
            x.pass(1);
            Check.is("9: 1 above", x.shipHas(0), 2000 - rate);
            Check.is("9: 99 above", x.shipHas(1), 100000 - 99 * rate);
        }
    }

    /** Promise 9: "but not more than it has" */
    private static void leaksNoMoreThanItHas() {
        // a rate of 99 never comes to that: for each LEVEL that it takes 99 litres by, there are 1000
        for (int litres = 900; litres <= 1200; litres += 50) {
            Slickboom x = new Slickboom();
            x.ship(0, litres);
            x.pass(11);
            x.hole(0, 99);
            x.pass(1);
            Check.is("9: at the TIDE 0", x.shipHas(0), litres < 1000 ? litres : litres - 99);
        }
        Slickboom x = new Slickboom();
        x.hole(x.ship(0, 100000), 99);
        for (int i = 0; i < 40; i++) {
            x.pass(48);
            Check.is("9: it keeps what is below the LEVEL 1", x.shipHas(0) >= 901, true);
            Check.is("9: nothing is lost", x.shipHas(0) + x.sum(1), 100000);
        }
        Check.is("9: and leaks no more then", x.shipHas(0) < 1000, true);
    }

    /** Promise 9: "is FRESH oil of its CELL then." */
    private static void shipsLeakIntoTheirCells() {
        Slickboom x = new Slickboom();
        x.hole(x.ship(2, 3000), 3);
        x.hole(x.ship(23, 2000), 9);
        x.hole(x.ship(2, 2000), 2);
        x.pass(1);
        Check.is("9: 6 and 2 of two SHIPS", x.at(2, 0), 8);
        Check.is("9: 9 of another one", x.at(23, 0), 9);
        Check.is("9: nothing is THICK", x.at(2, 1) + x.at(23, 1), 0);
        Check.is("9: all that leaked", x.sum(1), 17);
    }

    // ---- 3: what the weather does

    /** Promise 9: "Of the FRESH oil of each CELL a twentieth goes into the AIR" */
    private static void goesIntoTheAir() {
        for (int leaked = 0; leaked <= 130; leaked++) {
            Slickboom x = Bays.floating(9, leaked);
            Check.is("9: AIR of " + leaked, x.sum(4), leaked / 20);
            Check.is("9: the rest floats", x.sum(3), leaked - leaked / 20);
        }
        Slickboom x = new Slickboom();
        Bays.leak(x, 3, 39);
        x.hole(x.ship(4, 2000), 39);
        x.pass(1);
        Check.is("9: of each CELL 1, of both together it would be 3", x.sum(4), 2);
    }

    /** Promise 9: "of the FRESH oil that is left a tenth becomes THICK" */
    private static void becomesThick() {
        // leaked, FRESH, THICK: 9 are too few, of 20 one is in the AIR
        int[][] due = {{9, 9, 0}, {10, 9, 1}, {19, 18, 1}, {20, 18, 1}, {21, 18, 2}, {30, 27, 2}, {31, 27, 3}};
        for (int[] row : due) {
            Slickboom x = Bays.floating(9, row[0]);
            Check.is("9: FRESH of " + row[0], x.at(9, 0), row[1]);
            Check.is("9: THICK of " + row[0], x.at(9, 1), row[2]);
        }
    }

    /** Promise 9: "of the THICK oil, that with it, a fiftieth is SUNK." */
    private static void sinks() {
        // 525 leaked: 26 AIR, 499 are left, 49 become THICK; 526: 26 AIR, 500 are left, 50 become THICK
        Slickboom below = Bays.floating(9, 525);
        Check.is("9: none of 49", below.sum(5), 0);
        Check.is("9: 49 THICK", below.at(9, 1), 49);
        Slickboom just = Bays.floating(9, 526);
        Check.is("9: one of 50", just.sum(5), 1);
        Check.is("9: 49 THICK are left", just.at(9, 1), 49);
        Check.is("9: it is no FRESH oil", just.at(9, 0), 450);
        // 49 THICK with 9 FRESH, of which none becomes THICK, or with 10, of which one does
        for (int fresh = 9; fresh <= 10; fresh++) {
            Slickboom x = new Slickboom();
            Bays.leak(x, 9, 525);
            x.skimmer(9, 450 - fresh, 450 - fresh);
            x.pass(1);
            Check.is("9: 49 THICK", x.at(9, 1), 49);
            Check.is("9: FRESH", x.at(9, 0), fresh);
            Bays.stop(x);
            x.pass(1);
            Check.is("9: SUNK, that with it", x.sum(5), fresh == 9 ? 0 : 1);
            Check.is("9: THICK", x.at(9, 1), 49);
        }
        // of each CELL: two with 49 are not one with 98
        Slickboom y = new Slickboom();
        Bays.leak(y, 9, 525);
        y.hole(y.ship(10, 100000), 5);
        y.hole(y.ship(10, 2000), 30);
        y.pass(1);
        Check.is("9: 525 leaked into both", y.sum(1), 1050);
        Check.is("9: none of 49 in each", y.sum(5), 0);
    }

    /** Promise 9: "FRESH and THICK oil floats on WATER; a SHORE has STRANDED oil." */
    private static void strandedOilDoesNotWeather() {
        Slickboom x = Bays.blown(Slickboom.MARSH, 1000);
        for (int hour = 2; hour <= 30; hour++) {
            x.pass(1);
            Check.is("9: it does not go into the AIR", x.at(8, 2), 1000);
            Check.is("9: it floats not", x.at(8, 0) + x.at(8, 1), 0);
        }
    }

    // ---- what is divided

    /** Promise 9: "What is divided is rounded down; nothing that is divided is below 0." */
    private static void roundsDown() {
        Check.is("9: 19 by 20 into the AIR", Bays.floating(9, 19).sum(4), 0);
        Check.is("9: 39 by 20 into the AIR", Bays.floating(9, 39).sum(4), 1);
        Check.is("9: 9 by 10 become THICK", Bays.floating(9, 9).at(9, 1), 0);
        Check.is("9: 49 by 50 are SUNK", Bays.floating(9, 525).sum(5), 0);
        Slickboom drift = new Slickboom();
        Bays.leak(drift, 9, 9);
        drift.wind(Slickboom.EAST, 7);
        drift.pass(1);
        Check.is("9: 63 by 10 drift", drift.at(10, 0), 6);
        Check.is("9: 1999 by 1000", levelOneAt(1999).sum(1), 0);
        // a TIDE above the LEVEL, a rate below the FRESH oil: neither is divided, none is below 0
        Slickboom low = new Slickboom();
        low.hole(low.ship(9, 3500), 50);
        low.pass(1);
        int leaked = low.sum(1);
        low.pass(2);
        low.pass(3);
        Check.is("9: a LEVEL far below the TIDE", low.sum(1), leaked + 50);
        Slickboom slow = new Slickboom();
        Bays.leak(slow, 14, 350);
        slow.skimmer(14, 10, 5000);
        slow.pass(1);
        Check.is("9: a rate below the FRESH oil leaves nothing for the THICK oil, and no less", slow.at(14, 1), 33);
        Check.is("9: FRESH oil that such a rate leaves", slow.at(14, 0), 290);
    }

    private static Slickboom levelOneAt(int litres) {
        Slickboom x = new Slickboom();
        x.hole(x.ship(9, litres), 50);
        x.pass(1);
        return x;
    }
}
