import java.util.function.Consumer;

/** Objects that tests begin with. */
final class Bays {
    private Bays() {
    }

    /** The CELL to which a way leads, or -1 where it leads out of the bay. */
    static int beside(int cell, int way) {
        int row = cell / 6 + (way == Slickboom.SOUTH ? 1 : way == Slickboom.NORTH ? -1 : 0);
        int column = cell % 6 + (way == Slickboom.EAST ? 1 : way == Slickboom.WEST ? -1 : 0);
        return row < 0 || row > 3 || column < 0 || column > 5 ? -1 : 6 * row + column;
    }

    /** SHIPS 0 and 1 in a CELL: at the HOUR 1 just so many litres leak from them, up to 9899. */
    static void leak(Slickboom x, int cell, int litres) {
        // the TIDE is 1 then: a LEVEL of 100 is 99 above it, one of 2 is 1 above it
        x.hole(x.ship(cell, 100000), litres / 99);
        x.hole(x.ship(cell, 2000), litres % 99);
    }

    static void stop(Slickboom x) {
        x.hole(0, 0);
        x.hole(1, 0);
    }

    /** At the HOUR 1: so many litres leaked into a CELL, nothing leaks more, there is no WIND. */
    static Slickboom floating(int cell, int litres) {
        Slickboom x = new Slickboom();
        leak(x, cell, litres);
        x.pass(1);
        stop(x);
        return x;
    }

    /** What is FRESH of leaked oil behind its first HOUR, and not yet blown away. */
    static int freshOf(int leaked) {
        int left = leaked - leaked / 20;
        return left - left / 10;
    }

    static int thickOf(int leaked) {
        int thick = (leaked - leaked / 20) / 10;
        return thick - thick / 50;
    }

    /** How much must leak that a WIND of some strength would blow just so many litres away. */
    static int leakThatBlows(int litres, int strength) {
        for (int leaked = 0; leaked <= 9899; leaked++) {
            if (freshOf(leaked) * strength / 10 + thickOf(leaked) * strength / 10 == litres) {
                return leaked;
            }
        }
        return -1;
    }

    /** At the HOUR 1, behind an HOUR in which just so many litres would go from the CELL 7 to the SHORE 8. */
    static Slickboom blown(int kind, int litres, Consumer<Slickboom> first) {
        int strength = 9;
        while (leakThatBlows(litres, strength) < 0) {
            strength--;
        }
        Slickboom x = new Slickboom();
        x.shore(8, kind);
        first.accept(x);
        leak(x, 7, leakThatBlows(litres, strength));
        x.wind(Slickboom.EAST, strength);
        x.pass(1);
        stop(x);
        x.wind(Slickboom.EAST, 0);
        return x;
    }

    static Slickboom blown(int kind, int litres) {
        return blown(kind, litres, x -> { });
    }

    /** At the HOUR 5, with something of everything; the next HOUR gives STRANDED oil back. */
    static Slickboom busy() {
        Slickboom x = new Slickboom();
        x.shore(5, Slickboom.SAND);
        x.shore(8, Slickboom.ROCK);
        x.shore(15, Slickboom.SAND);
        x.shore(22, Slickboom.MARSH);
        x.depth(12, 9);
        x.birds(8, 40);
        x.birds(22, 7);
        x.sign(5, 1);
        x.sign(5, 2);
        x.hole(x.ship(7, 50000), 60);
        x.hole(x.ship(14, 90000), 40);
        x.hole(x.ship(18, 80000), 30);
        x.wind(Slickboom.EAST, 7);
        x.boom(7, Slickboom.SOUTH, 9);
        x.boom(14, Slickboom.EAST, 5);
        x.boom(20, Slickboom.EAST, 8);
        x.skimmer(7, 100, 5000);
        x.skimmer(14, 50, 120);
        x.team(5, true);
        x.team(3, false);
        x.team(2, true);
        x.pass(3);
        x.wash(8, 2);
        x.carry(3);
        x.clean(5, 8);
        x.use(18, Slickboom.DISPERSING);
        x.wind(Slickboom.SOUTH, 4);
        x.pass(1);
        x.clean(5, 15);
        x.use(18, Slickboom.BURNING);
        x.wind(Slickboom.EAST, 7);
        x.pass(1);
        x.site(300, 40);
        x.site(0, 1000);
        x.deliver(0, Slickboom.LIQUID, 100);
        x.deliver(1, Slickboom.SOLID, 20);
        x.claim(500);
        x.claim(301);
        x.layers(400, 100);
        return x;
    }

    /** All that has a number, as many as there can be; the SHORE is 23. */
    static Slickboom full() {
        Slickboom x = new Slickboom();
        x.shore(23, Slickboom.ROCK);
        x.team(4, true);
        x.team(4, false);
        for (int i = 2; i < 20; i++) {
            if (i % 2 == 0) {
                x.skimmer(i, 10 * i, 100);
            } else {
                x.boom(i, Slickboom.EAST, 1 + i % 9);
            }
        }
        for (int ship = 0; ship < 4; ship++) {
            x.hole(x.ship(3 * ship, 9000 * ship), 20);
        }
        for (int site = 0; site < 3; site++) {
            x.site(20 * site, 10);
        }
        for (int claim = 0; claim < 20; claim++) {
            x.claim(100 + claim);
        }
        x.layers(700, 300);
        x.wind(Slickboom.EAST, 5);
        return x;
    }

    /** At the HOUR 2000, the last one. */
    static Slickboom late() {
        Slickboom x = new Slickboom();
        x.shore(8, Slickboom.SAND);
        x.ship(7, 9000);
        x.wind(Slickboom.EAST, 6);
        for (int i = 0; i < 41; i++) {
            x.pass(48);
        }
        x.pass(31);
        x.hole(0, 30);
        x.pass(1);
        return x;
    }
}
