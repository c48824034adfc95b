/** Promises 30 to 32: what would be, and the books. */
public final class AheadTest {
    public static void main(String[] args) {
        ahead();
        aheadChangesNothing();
        aheadBeyondTheLastHour();
        nextAnew();
        nextAnewOnEachSide();
        sums();
        Check.end();
    }

    private static void ahead() {
        Slickboom x = new Slickboom();
        x.ship(7, 5000);
        x.hole(0, 10);
        x.pass(1);
        Check.is("30: FRESH and THICK", x.ahead(7, 1), 56);
        Check.is("30: another CELL", x.ahead(8, 48), 0);
        Check.noNumber("30: cell 24", () -> x.ahead(24, 0));
        Check.noNumber("30: cell -1", () -> x.ahead(-1, 1));
        Check.noRange("30: 0", () -> x.ahead(7, 0));
        Check.noRange("30: 49", () -> x.ahead(7, 49));
        // what all CELLS would have is what they have then
        Slickboom y = busy();
        for (int hours = 1; hours <= 48; hours += 1) {
            Slickboom later = busy();
            later.pass(hours);
            for (int cell = 0; cell < 24; cell++) {
                int due = later.at(cell, 0) + later.at(cell, 1) + later.at(cell, 2);
                Check.is("30: ahead(" + cell + ", " + hours + ")", y.ahead(cell, hours), due);
            }
        }
    }

    /** Something of everything, at the HOUR 3. */
    private static Slickboom busy() {
        Slickboom x = new Slickboom();
        x.shore(9, Slickboom.ROCK);
        x.shore(10, Slickboom.MARSH);
        x.shore(2, Slickboom.SAND);
        x.shore(21, Slickboom.SAND);
        x.birds(9, 40);
        x.sign(2, 1);
        x.ship(8, 9000);
        x.hole(0, 30);
        x.ship(20, 70000);
        x.hole(1, 12);
        x.wind(Slickboom.EAST, 7);
        x.boom(8, Slickboom.EAST, 6);
        x.boom(20, Slickboom.EAST, 7);
        x.skimmer(8, 50, 120);
        x.skimmer(20, 60, 5000);
        x.pass(3);
        x.wind(Slickboom.NORTH, 6);
        x.boom(14, Slickboom.NORTH, 5);
        return x;
    }

    private static void aheadChangesNothing() {
        Slickboom x = busy();
        Slickboom y = busy();
        for (int cell = 0; cell < 24; cell++) {
            y.ahead(cell, 48);
            y.nextAnew(cell);
        }
        same("30: behind ahead", x, y);
        x.pass(10);
        y.pass(10);
        same("30: later", x, y);
    }

    private static void same(String what, Slickboom x, Slickboom y) {
        for (int cell = 0; cell < 24; cell++) {
            for (int i = 0; i <= 8; i++) {
                Check.is(what + " at(" + cell + ", " + i + ")", y.at(cell, i), x.at(cell, i));
            }
        }
        for (int mean = 0; mean < 5; mean++) {
            for (int i = 0; i <= 3; i++) {
                Check.is(what + " meanIs(" + mean + ", " + i + ")", y.meanIs(mean, i), x.meanIs(mean, i));
            }
        }
        for (int i = 0; i <= 11; i++) {
            Check.is(what + " sum(" + i + ")", y.sum(i), x.sum(i));
        }
        Check.is(what + " shipHas(0)", y.shipHas(0), x.shipHas(0));
        Check.is(what + " shipHas(1)", y.shipHas(1), x.shipHas(1));
    }

    private static void aheadBeyondTheLastHour() {
        Slickboom x = new Slickboom();
        x.ship(7, 5000);
        for (int i = 0; i < 41; i++) {
            x.pass(48);
        }
        x.pass(32);
        Check.is("30: at 2000", x.sum(0), 2000);
        x.hole(0, 10);
        // the TIDE of the HOUR 2000 is 4, of 2001 is 3, of 2002 is 2
        Check.is("30: at 2001", x.ahead(7, 1), 19);
        Check.is("31: at 2001", x.nextAnew(7), 19);
        Check.is("30: at 2002", x.ahead(7, 2), 38);
        Check.is("30: the HOUR is the same", x.sum(0), 2000);
        Check.is("30: at 2048", x.ahead(7, 48) > 0, true);
    }

    private static void nextAnew() {
        Slickboom x = busy();
        for (int hour = 3; hour < 40; hour++) {
            for (int cell = 0; cell < 24; cell++) {
                Check.is("31: nextAnew(" + cell + ") at " + hour, x.nextAnew(cell), x.ahead(cell, 1));
            }
            x.wind(hour % 4, hour % 10);
            x.pass(1);
        }
        Check.noNumber("31: cell 24", () -> x.nextAnew(24));
        Check.noNumber("31: cell -1", () -> x.nextAnew(-1));
    }

    private static void nextAnewOnEachSide() {
        Slickboom x = new Slickboom();
        x.shore(8, Slickboom.ROCK);
        x.ship(7, 8000);
        x.hole(0, 50);
        x.wind(Slickboom.EAST, 6);
        Check.is("31: comes to a SHORE", x.nextAnew(8), 199);
        Check.is("31: stays", x.nextAnew(7), 134);
        Check.is("31: no further", x.nextAnew(9), 0);
        x.wind(Slickboom.SOUTH, 6);
        Check.is("31: comes to WATER", x.nextAnew(13), 199);
        Check.is("31: not to the SHORE", x.nextAnew(8), 0);
        x.boom(7, Slickboom.SOUTH, 6);
        Check.is("31: held", x.nextAnew(13), 0);
        Check.is("31: all stays", x.nextAnew(7), 333);
        x.skimmer(7, 320, 5000);
        Check.is("31: less what a SKIMMER takes", x.nextAnew(7), 23);
        x.wind(Slickboom.EAST, 9);
        x.pass(5);
        Check.is("31: full", x.at(8, 2), 200);
        x.wind(Slickboom.EAST, 0);
        Check.is("31: gives back at the HOUR 6", x.nextAnew(8), 160);
        Check.is("31: to the CELL 2", x.nextAnew(2), 40);
        Check.is("31: not to the CELL 9", x.nextAnew(9), 0);
    }

    private static void sums() {
        Slickboom x = busy();
        x.site(100, 100);
        x.team(3, true);
        x.clean(5, 2);
        x.carry(2);
        x.carry(3);
        x.deliver(0, Slickboom.LIQUID, 50);
        for (int hour = 0; hour < 60; hour++) {
            x.wind(hour % 4, hour % 5 + 2);
            for (int cell = 0; cell < 24; cell++) {
                for (int use = Slickboom.BURNING; use >= Slickboom.DISPERSING; use--) {
                    if (x.at(cell, 3) == Slickboom.WATER && x.at(cell, 0) > 0 && x.why(cell, use, 2) == 0) {
                        x.use(cell, use);
                    }
                }
            }
            int all = 0;
            for (int what = 3; what <= 11; what++) {
                all += x.sum(what);
            }
            Check.is("32: each litre is somewhere", all, x.sum(1));
            Check.is("32: or in a SHIP", x.sum(1) + x.sum(2), 79000);
            x.pass(1);
        }
        for (int what = 0; what <= 11; what++) {
            Check.is("32: some, " + what, x.sum(what) > 0, true);
        }
        Check.noRange("32: 12", () -> x.sum(12));
        Check.noRange("32: -1", () -> x.sum(-1));
        int[] floats = new int[2];
        for (int cell = 0; cell < 24; cell++) {
            floats[0] += x.at(cell, 0) + x.at(cell, 1);
            floats[1] += x.at(cell, 2);
        }
        Check.is("32: floats", x.sum(3), floats[0]);
        Check.is("32: STRANDED", x.sum(7), floats[1]);
        Check.is("32: in stores", x.sum(8), x.meanIs(2, 3) + x.meanIs(3, 3));
        Check.is("32: waste", x.sum(11), x.waste(0) + x.waste(1) + 50);
        Check.is("32: the HOUR", x.sum(0), 63);
        Check.is("32: in SHIPS", x.sum(2), x.shipHas(0) + x.shipHas(1));
    }
}
