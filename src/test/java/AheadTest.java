import java.util.function.Supplier;

/** Promises 30 to 32: what would be, and the books. */
public final class AheadTest {
    public static void main(String[] args) {
        aheadIsWhatComes();
        aheadTogether();
        aheadWithNothingTold();
        aheadChangesNothing();
        aheadBeyond2000();
        aheadOfACell();
        aheadSoManyHours();
        nextAnewIsTheSame();
        nextAnewByEachWay();
        nextAnewOfAShore();
        nextAnewByABoom();
        nextAnewGivenBack();
        nextAnewSkimmed();
        nextAnewBeyond2000();
        nextAnewOfACell();
        sumOfHours();
        sumOfLeaks();
        sumOfShips();
        sumOfFloating();
        sumOfTheWeather();
        sumOfOut();
        sumOfStranded();
        sumOfStores();
        sumOfUses();
        sumOfWaste();
        sumsTogether();
        sumInRange();
        Check.end();
    }

    private static int oil(Slickboom x, int cell) {
        return x.at(cell, 0) + x.at(cell, 1) + x.at(cell, 2);
    }

    private static Supplier<Slickboom> busyLater(int hours) {
        return () -> {
            Slickboom x = Bays.busy();
            for (int hour = 0; hour < hours; hour++) {
                x.wind((hour + 1) % 4, hour * 7 % 10);
                x.pass(1);
            }
            x.wind(hours % 4, (hours * 3 + 5) % 10);
            return x;
        };
    }

    // ---- ahead

    /** Promise 30: "Returns how much oil a CELL would have behind some HOURS", "Returns the litres." */
    private static void aheadIsWhatComes() {
        for (int hours = 1; hours <= 48; hours++) {
            Slickboom now = Bays.busy();
            Slickboom then = Bays.busy();
            then.pass(hours);
            for (int cell = 0; cell < 24; cell++) {
                Check.is("30: ahead(" + cell + ", " + hours + ")", now.ahead(cell, hours), oil(then, cell));
            }
        }
        for (int later = 1; later <= 30; later++) {
            Slickboom now = busyLater(later).get();
            Slickboom then = busyLater(later).get();
            then.pass(5);
            for (int cell = 0; cell < 24; cell++) {
                Check.is("30: ahead(" + cell + ", 5) " + later + " HOURS later", now.ahead(cell, 5), oil(then, cell));
            }
        }
    }

    /** Promise 30: "FRESH, THICK and STRANDED together" */
    private static void aheadTogether() {
        Slickboom x = new Slickboom();
        x.shore(8, Slickboom.ROCK);
        Bays.leak(x, 7, 350);
        x.wind(Slickboom.EAST, 3);
        // 300 FRESH and 33 THICK, of which 90 and 9 go
        Check.is("30: FRESH and THICK", x.ahead(7, 1), 234);
        Check.is("30: STRANDED", x.ahead(8, 1), 99);
        Check.is("30: nothing there", x.ahead(9, 1), 0);
        Check.is("30: nothing there later", x.ahead(9, 48), 0);
    }

    /** Promise 30: "with nothing told meanwhile" */
    private static void aheadWithNothingTold() {
        Slickboom x = Bays.floating(14, 350);
        x.wind(Slickboom.EAST, 9);
        int moved = x.ahead(14, 2);
        x.wind(Slickboom.EAST, 0);
        Check.is("30: the WIND as it was told last", x.ahead(14, 2) > moved, true);
        x.skimmer(14, 500, 5000);
        Check.is("30: a SKIMMER that was told", x.ahead(14, 1), 0);
        x.move(0, 13);
        Check.is("30: and sent away", x.ahead(14, 1) > 300, true);
        x.hole(0, 99);
        Check.is("30: a hole that was told", x.ahead(14, 1) > 5000, true);
    }

    /** Promise 30: "nothing changes." */
    private static void aheadChangesNothing() {
        for (int later = 0; later < 8; later++) {
            Twins.same("30: nothing changes", busyLater(later), x -> {
                x.ahead(7, 1);
                x.ahead(14, 13);
                x.ahead(20, 48);
            });
            Twins.same("31: nothing changes", busyLater(later), x -> {
                x.nextAnew(7);
                x.nextAnew(8);
                x.nextAnew(20);
            });
        }
        Twins.same("30: nothing changes with all that has a number", Bays::full, x -> x.ahead(0, 48));
        Twins.same("30: nothing changes at the HOUR 2000", Bays::late, x -> x.ahead(8, 48));
        Slickboom x = Bays.busy();
        int first = x.ahead(20, 30);
        x.ahead(7, 48);
        Check.is("30: the same once more", x.ahead(20, 30), first);
    }

    /** Promise 30: "also beyond the HOUR 2000" */
    private static void aheadBeyond2000() {
        // the TIDE of 2001 is 3, of 2002 2
        Slickboom x = new Slickboom();
        x.ship(7, 5000);
        for (int i = 0; i < 41; i++) {
            x.pass(48);
        }
        x.pass(31);
        x.hole(0, 10);
        // at 2000 the TIDE is 4, and 10 leak; a LEVEL of 4 leaks 10 and 20 more: of 38 FRESH ones 1 goes into the AIR
        Check.is("30: at 2000", x.ahead(7, 1), 10);
        Check.is("30: at 2001", x.ahead(7, 2), 20);
        Check.is("30: at 2002", x.ahead(7, 3), 39);
        x.pass(1);
        Check.is("30: at 2001, asked at 2000", x.ahead(7, 1), 20);
        Check.is("30: at 2002, asked at 2000", x.ahead(7, 2), 39);
        Check.is("30: it is 2000 still", x.sum(0), 2000);
        // 85 litres are STRANDED, and come back at the next HOUR of the TIDE 6, which is 2010
        Slickboom y = Bays.late();
        y.hole(0, 0);
        y.wind(Slickboom.EAST, 0);
        Check.is("30: STRANDED at 2000", y.at(8, 2), 85);
        Check.is("30: at 2009", y.ahead(8, 9), 85);
        Check.is("30: at 2010", y.ahead(8, 10), 77);
        Check.is("30: at 2048 a tenth of 77 less, and of 70, and of 63", y.ahead(8, 48), 57);
    }

    /** Promise 30: "cell: 0 to 23", "Throws IndexOutOfBoundsException if there is no such CELL" */
    private static void aheadOfACell() {
        Check.is("30: the first CELL", Bays.floating(0, 350).ahead(0, 1) > 300, true);
        Check.is("30: the last CELL", Bays.floating(23, 350).ahead(23, 1) > 300, true);
        Refused.numbers("30: cell", 24, Bays::busy, (y, cell) -> y.ahead(cell, 5));
    }

    /** Promise 30: "hours: 1 to 48", "Throws IllegalArgumentException if hours is out of range" */
    private static void aheadSoManyHours() {
        Slickboom then = Bays.busy();
        then.pass(48);
        Check.is("30: the most", Bays.busy().ahead(20, 48), oil(then, 20));
        Slickboom next = Bays.busy();
        next.pass(1);
        Check.is("30: the least", Bays.busy().ahead(20, 1), oil(next, 20));
        Refused.ranges("30: hours", 1, 48, Bays::busy, (y, hours) -> y.ahead(20, hours));
    }

    // ---- nextAnew

    /** Promise 31: "Returns the same for one HOUR", "Returns the litres." */
    private static void nextAnewIsTheSame() {
        for (int later = 0; later < 60; later++) {
            Slickboom x = busyLater(later).get();
            for (int cell = 0; cell < 24; cell++) {
                Check.is("31: nextAnew(" + cell + ") after " + later, x.nextAnew(cell), x.ahead(cell, 1));
            }
            Slickboom then = busyLater(later).get();
            then.pass(1);
            Slickboom now = busyLater(later).get();
            for (int cell = 0; cell < 24; cell++) {
                Check.is("31: what comes to " + cell + " after " + later, now.nextAnew(cell), oil(then, cell));
            }
        }
        Slickboom full = Bays.full();
        for (int cell = 0; cell < 24; cell++) {
            Check.is("31: with all that has a number, " + cell, full.nextAnew(cell), full.ahead(cell, 1));
        }
    }

    /** Promise 31: "found for that CELL alone, by what comes to it, stays and goes." */
    private static void nextAnewByEachWay() {
        int[] to = {15, 13, 20, 8};
        int[] ends = {17, 12, 20, 2};
        for (int way = 0; way < 4; way++) {
            Slickboom x = new Slickboom();
            Bays.leak(x, 14, 350);
            x.wind(way, 3);
            Check.is("31: stays by " + way, x.nextAnew(14), 234);
            for (int i = 0; i < 4; i++) {
                Check.is("31: comes by " + way, x.nextAnew(to[i]), i == way ? 99 : 0);
            }
            Slickboom y = new Slickboom();
            Bays.leak(y, ends[way], 350);
            y.wind(way, 3);
            Check.is("31: goes out of the bay by " + way, y.nextAnew(ends[way]), 234);
        }
        // 11 and 12 are not beside one another, nor 5 and 6
        Slickboom z = new Slickboom();
        Bays.leak(z, 11, 350);
        z.wind(Slickboom.EAST, 9);
        Check.is("31: nothing comes from the end of another ROW", z.nextAnew(12), 0);
        z.wind(Slickboom.SOUTH, 9);
        Check.is("31: it comes to the next ROW", z.nextAnew(17), 299);
    }

    /** Promise 31: "by what comes to it, stays and goes." */
    private static void nextAnewOfAShore() {
        for (int litres = 198; litres <= 202; litres++) {
            Slickboom x = Bays.blown(Slickboom.ROCK, litres);
            x.wind(Slickboom.EAST, 9);
            Check.is("31: to a SHORE with " + litres, x.nextAnew(8), 200);
            Check.is("31: what it does not hold stays", x.nextAnew(7), x.ahead(7, 1));
            x.wind(Slickboom.WEST, 9);
            Check.is("31: nothing goes from a SHORE", x.nextAnew(8), Math.min(litres, 200));
            Check.is("31: nor comes from it", x.nextAnew(7), x.ahead(7, 1));
        }
    }

    /** Promise 31: "by what comes to it, stays and goes." */
    private static void nextAnewByABoom() {
        for (int strength = 4; strength <= 6; strength++) {
            for (int told = 0; told < 2; told++) {
                Slickboom x = new Slickboom();
                Bays.leak(x, 14, 350);
                x.boom(told == 0 ? 14 : 15, told == 0 ? Slickboom.EAST : Slickboom.WEST, strength);
                x.wind(Slickboom.EAST, 5);
                // 150 FRESH and 16 THICK would go
                Check.is("31: stays by a BOOM of " + strength, x.nextAnew(14), strength < 5 ? 167 : 333);
                Check.is("31: comes by a BOOM of " + strength, x.nextAnew(15), strength < 5 ? 166 : 0);
                Check.is("31: it is not BROKEN by that", x.meanIs(0, 3), 0);
            }
        }
        Slickboom out = new Slickboom();
        Bays.leak(out, 5, 350);
        out.boom(5, Slickboom.NORTH, 5);
        out.wind(Slickboom.NORTH, 5);
        Check.is("31: held in the bay", out.nextAnew(5), 333);
    }

    /** Promise 31: "by what comes to it" */
    private static void nextAnewGivenBack() {
        Slickboom x = Bays.blown(Slickboom.ROCK, 200);
        x.pass(3);
        Check.is("31: not at the HOUR 5", x.nextAnew(8), 200);
        Check.is("31: nothing comes at the HOUR 5", x.nextAnew(2), 0);
        x.pass(1);
        Check.is("31: it gives at the HOUR 6", x.nextAnew(8), 160);
        Check.is("31: to the lowest", x.nextAnew(2), 40);
        Check.is("31: not to the others", x.nextAnew(9) + x.nextAnew(14), 0);
        // what strands in that HOUR counts
        x.wind(Slickboom.EAST, 9);
        Check.is("31: full again, and a fifth less", x.nextAnew(8), 160);
        x.pass(1);
        Check.is("31: not at the HOUR 7: of 40 go 36", x.nextAnew(2), 4);
        // a SKIMMER there takes half of its rate of it, for it is THICK: 20 of 40
        Slickboom skimmed = Bays.blown(Slickboom.ROCK, 200);
        skimmed.skimmer(2, 40, 5000);
        skimmed.pass(4);
        Check.is("31: THICK oil for a SKIMMER", skimmed.nextAnew(2), 20);
        Check.is("31: THICK oil for a SKIMMER, ahead", skimmed.ahead(2, 1), 20);
        // to the CELL 0 from the EAST or the SOUTH; to the SOUTH, if all else are SHORES
        for (int shore = 1; shore <= 6; shore += 5) {
            Slickboom z = new Slickboom();
            z.shore(shore, Slickboom.ROCK);
            Bays.leak(z, 0, 9000);
            z.wind(shore == 1 ? Slickboom.EAST : Slickboom.SOUTH, 9);
            z.pass(1);
            Bays.stop(z);
            z.wind(Slickboom.EAST, 0);
            z.pass(4);
            Check.is("31: it gives to the CELL 0", z.nextAnew(shore), 160);
            Check.is("31: the CELL 0 gets it", z.nextAnew(0), z.ahead(0, 1));
        }
        Slickboom south = new Slickboom();
        south.shore(8, Slickboom.ROCK);
        south.shore(2, Slickboom.MARSH);
        south.shore(7, Slickboom.MARSH);
        south.shore(9, Slickboom.MARSH);
        Bays.leak(south, 14, 230);
        south.wind(Slickboom.NORTH, 9);
        south.pass(1);
        Bays.stop(south);
        Check.is("31: from the SOUTH", south.at(8, 2), 196);
        south.wind(Slickboom.EAST, 9);
        south.pass(4);
        Check.is("31: little is left there", oil(south, 14), 2);
        Check.is("31: it gives to the SOUTH", south.nextAnew(14), 2 + 39);
        // more than one SHORE gives to one CELL
        Slickboom y = new Slickboom();
        y.shore(9, Slickboom.ROCK);
        y.shore(4, Slickboom.SAND);
        y.shore(8, Slickboom.MARSH);
        Bays.leak(y, 10, 9000);
        y.wind(Slickboom.WEST, 9);
        y.pass(1);
        y.wind(Slickboom.NORTH, 9);
        y.pass(1);
        Bays.stop(y);
        y.wind(Slickboom.NORTH, 0);
        y.pass(3);
        Check.is("31: both are full", y.at(9, 2) + y.at(4, 2), 700);
        Check.is("31: 40 of one, 50 of the other", y.nextAnew(3), 90);
        Check.is("31: as ahead", y.ahead(3, 1), 90);
    }

    /** Promise 31: "stays and goes." */
    private static void nextAnewSkimmed() {
        Slickboom x = new Slickboom();
        Bays.leak(x, 14, 350);
        x.skimmer(14, 200, 5000);
        Check.is("31: less what a SKIMMER takes", x.nextAnew(14), 133);
        x.skimmer(14, 120, 5000);
        Check.is("31: less what two take", x.nextAnew(14), 23);
        x.move(0, 13);
        Check.is("31: less what the second takes", x.nextAnew(14), 213);
        x.skimmer(14, 500, 100);
        Check.is("31: less what the second and a small store take", x.nextAnew(14), 113);
        Check.is("31: their stores are empty still", x.meanIs(1, 3) + x.meanIs(2, 3), 0);
    }

    /** Promise 31: "Returns the same" */
    private static void nextAnewBeyond2000() {
        Slickboom x = Bays.late();
        for (int cell = 0; cell < 24; cell++) {
            Check.is("31: at the HOUR 2000, " + cell, x.nextAnew(cell), x.ahead(cell, 1));
        }
        Check.is("31: there is some", x.nextAnew(8) > 0, true);
    }

    /** Promise 31: "cell: 0 to 23", "Throws IndexOutOfBoundsException if there is no such CELL" */
    private static void nextAnewOfACell() {
        Check.is("31: the first CELL", Bays.floating(0, 350).nextAnew(0) > 300, true);
        Check.is("31: the last CELL", Bays.floating(23, 350).nextAnew(23) > 300, true);
        Refused.numbers("31: cell", 24, Bays::busy, (y, cell) -> y.nextAnew(cell));
    }

    // ---- sums

    /** Promise 32: "Returns a sum.", "what: 0 the HOUR", "Returns the sum." */
    private static void sumOfHours() {
        Slickboom x = new Slickboom();
        Check.is("32: the HOUR 0", x.sum(0), 0);
        x.pass(48);
        Check.is("32: the HOUR 48", x.sum(0), 48);
        Check.is("32: the HOUR 2000", Bays.late().sum(0), 2000);
        for (int what = 0; what <= 11; what++) {
            int of = what;
            Twins.same("32: asking changes nothing", Bays::busy, y -> y.sum(of));
        }
    }

    /** Promise 32: "1 all litres that ever leaked" */
    private static void sumOfLeaks() {
        Slickboom x = new Slickboom();
        x.hole(x.ship(3, 4000), 10);
        x.hole(x.ship(9, 3000), 1);
        x.pass(1);
        Check.is("32: 30 and 2", x.sum(1), 32);
        x.pass(1);
        // of 3970 and 2998, at the TIDE 2
        Check.is("32: 10 more", x.sum(1), 42);
        x.wind(Slickboom.EAST, 3);
        x.use(3, Slickboom.DISPERSING);
        Check.is("32: they leaked, whatever became of them", x.sum(1), 42);
    }

    /** Promise 32: "2 those in SHIPS" */
    private static void sumOfShips() {
        Slickboom x = new Slickboom();
        Check.is("32: no SHIPS", x.sum(2), 0);
        for (int ship = 1; ship <= 4; ship++) {
            x.ship(0, 100000);
            Check.is("32: in SHIPS", x.sum(2), 100000 * ship);
        }
        x.hole(3, 99);
        x.pass(1);
        Check.is("32: less what leaked", x.sum(2), 400000 - 9801);
        x.pump(0, 3, 9801);
        Check.is("32: pumped or not", x.sum(2), 400000 - 9801);
    }

    /** Promise 32: "3 those that float" */
    private static void sumOfFloating() {
        Slickboom x = new Slickboom();
        x.shore(8, Slickboom.ROCK);
        Bays.leak(x, 7, 350);
        x.hole(x.ship(0, 2000), 9);
        x.wind(Slickboom.EAST, 6);
        x.pass(1);
        // 120 FRESH and 14 THICK in 7, 4 and 5 in 0 and 1
        Check.is("32: FRESH and THICK, in all CELLS", x.sum(3), 134 + 9);
    }

    /** Promise 32: "4 AIR; 5 SUNK" */
    private static void sumOfTheWeather() {
        Slickboom x = Bays.floating(14, 526);
        Check.is("32: AIR", x.sum(4), 26);
        Check.is("32: SUNK", x.sum(5), 1);
        x.pass(1);
        // 450: 22 AIR, 428, 42 thicken; 91: 1 is SUNK
        Check.is("32: AIR, more", x.sum(4), 48);
        Check.is("32: SUNK, more", x.sum(5), 2);
    }

    /** Promise 32: "6 OUT" */
    private static void sumOfOut() {
        Slickboom x = new Slickboom();
        Bays.leak(x, 5, 350);
        x.wind(Slickboom.EAST, 3);
        x.pass(1);
        Check.is("32: OUT, 90 and 9", x.sum(6), 99);
        Bays.stop(x);
        x.wind(Slickboom.NORTH, 9);
        x.pass(1);
        // 210: 10 AIR, 20 thicken, 180; 44: 162 and 39 go
        Check.is("32: OUT, 162 and 39 more", x.sum(6), 99 + 162 + 39);
    }

    /** Promise 32: "7 STRANDED" */
    private static void sumOfStranded() {
        Slickboom x = Bays.blown(Slickboom.ROCK, 150, y -> y.shore(6, Slickboom.SAND));
        Check.is("32: STRANDED", x.sum(7), 150);
        x.wind(Slickboom.WEST, 9);
        x.pass(1);
        Check.is("32: on both SHORES", x.sum(7), 150 + x.at(6, 2));
        Check.is("32: some on the other one", x.at(6, 2) > 0, true);
        x.team(2, true);
        x.clean(0, 8);
        Check.is("32: less what was cleaned", x.sum(7), 130 + x.at(6, 2));
    }

    /** Promise 32: "8 in stores" */
    private static void sumOfStores() {
        Slickboom x = new Slickboom();
        Bays.leak(x, 14, 350);
        x.boom(3, Slickboom.EAST, 3);
        x.skimmer(14, 30, 40);
        x.team(3, true);
        x.skimmer(14, 50, 400);
        x.pass(1);
        Check.is("32: in both stores", x.sum(8), 80);
        x.carry(1);
        Check.is("32: less what was carried away", x.sum(8), 50);
        // the first and the last of 20 means
        Slickboom y = new Slickboom();
        Bays.leak(y, 14, 350);
        y.skimmer(14, 7, 7);
        for (int i = 1; i < 19; i++) {
            y.team(1, true);
        }
        y.skimmer(14, 4, 4);
        y.pass(1);
        Check.is("32: in the stores of the first and the last one", y.sum(8), 11);
    }

    /** Promise 32: "9 DEEP; 10 BURNT" */
    private static void sumOfUses() {
        Slickboom x = Bays.floating(14, 350);
        x.wind(Slickboom.EAST, 2);
        x.use(14, Slickboom.BURNING);
        Check.is("32: BURNT", x.sum(10), 270);
        Check.is("32: not DEEP", x.sum(9), 0);
        Slickboom y = Bays.floating(14, 350);
        y.wind(Slickboom.EAST, 2);
        y.use(14, Slickboom.DISPERSING);
        Check.is("32: DEEP", y.sum(9), 300);
        Check.is("32: not BURNT", y.sum(10), 0);
    }

    /** Promise 32: "11 LIQUID and SOLID waste, delivered or not" */
    private static void sumOfWaste() {
        Slickboom x = Bays.blown(Slickboom.ROCK, 100);
        x.skimmer(7, 3, 3);
        x.team(2, true);
        x.pass(1);
        Check.is("32: none yet", x.sum(11), 0);
        x.carry(0);
        Check.is("32: LIQUID", x.sum(11), 3);
        x.clean(1, 8);
        Check.is("32: LIQUID and SOLID", x.sum(11), 23);
        x.site(100, 100);
        x.deliver(0, Slickboom.LIQUID, 2);
        x.deliver(0, Slickboom.SOLID, 20);
        Check.is("32: delivered, too", x.sum(11), 23);
    }

    /**
     * Promise 32: "1 all litres that ever leaked; 2 those in SHIPS; 3 those that float; 4 AIR; 5 SUNK; 6 OUT; 7
     * STRANDED; 8 in stores; 9 DEEP; 10 BURNT; 11 LIQUID and SOLID waste, delivered or not"
     */
    private static void sumsTogether() {
        for (int later = 0; later < 60; later++) {
            Slickboom x = busyLater(later).get();
            int all = 0;
            for (int what = 3; what <= 11; what++) {
                all += x.sum(what);
            }
            Check.is("32: each litre that leaked is somewhere", all, x.sum(1));
            Check.is("32: or in a SHIP", x.sum(1) + x.sum(2), 220000);
        }
        Slickboom x = Bays.busy();
        for (int what = 0; what <= 11; what++) {
            Check.is("32: some of " + what, x.sum(what) > 0, true);
        }
    }

    /** Promise 32: "Throws IllegalArgumentException if what is out of range" */
    private static void sumInRange() {
        Check.is("32: the first", Bays.busy().sum(0), 5);
        Check.is("32: the last", Bays.busy().sum(11), 400);
        Refused.ranges("32: what", 0, 11, Bays::busy, (y, what) -> y.sum(what));
        Refused.ranges("32: what of a new object", 0, 11, Slickboom::new, (y, what) -> y.sum(what));
    }
}
