/** Promises 1 to 10: a new object, the bay, its ships, and at. */
public final class BayTest {
    public static void main(String[] args) {
        aNewObject();
        shore();
        shoreOnlyAtFirst();
        depth();
        wind();
        ship();
        hole();
        pump();
        shipHas();
        pass();
        at();
        Check.end();
    }

    private static void aNewObject() {
        Slickboom x = new Slickboom();
        for (int cell = 0; cell < 24; cell++) {
            for (int what = 0; what <= 8; what++) {
                Check.is("1: new at(" + cell + ", " + what + ")", x.at(cell, what), what == 4 ? 20 : 0);
            }
        }
        for (int what = 0; what <= 11; what++) {
            Check.is("1: new sum(" + what + ")", x.sum(what), 0);
        }
        Check.is("1: new waste", x.waste(0) + x.waste(1), 0);
        Check.is("1: new wind", x.wind(0, 0), 0);
        Check.is("1: new layers", x.layers(0, 0), 0);
        Check.noNumber("1: no ship", () -> x.shipHas(0));
        Check.noNumber("1: no mean", () -> x.meanIs(0, 0));
        Check.noNumber("1: no claim", () -> x.due(0, 0));
    }

    private static void shore() {
        Slickboom x = new Slickboom();
        Check.is("2: was WATER", x.shore(0, Slickboom.ROCK), Slickboom.WATER);
        Check.is("2: was ROCK", x.shore(0, Slickboom.SAND), Slickboom.ROCK);
        Check.is("2: was SAND", x.shore(0, Slickboom.MARSH), Slickboom.SAND);
        Check.is("2: is MARSH", x.at(0, 3), Slickboom.MARSH);
        Check.is("2: a SHORE has no depth", x.at(0, 4), 0);
        Check.is("2: was MARSH", x.shore(0, Slickboom.WATER), Slickboom.MARSH);
        Check.is("2: depth of new WATER", x.at(0, 4), 20);
        Check.is("2: tell a depth", x.depth(0, 7), 20);
        Check.is("2: WATER again", x.shore(0, Slickboom.WATER), Slickboom.WATER);
        Check.is("2: WATER again has the depth 20", x.at(0, 4), 20);
        Check.is("2: the last CELL", x.shore(23, Slickboom.ROCK), 0);

        x.birds(23, 100);
        x.sign(23, 1);
        x.sign(23, 2);
        Check.is("2: was CLEAN", x.at(23, 8), 1);
        Check.is("2: the same kind", x.shore(23, Slickboom.ROCK), Slickboom.ROCK);
        Check.is("2: no birds", x.at(23, 5), 0);
        Check.is("2: no signatures", x.at(23, 7), 0);
        Check.is("2: not CLEAN", x.at(23, 8), 0);
        Check.is("2: can be signed anew", x.sign(23, 1), false);

        Check.noNumber("2: cell -1, kind 9", () -> x.shore(-1, 9));
        Check.noNumber("2: cell 24", () -> x.shore(24, 1));
        Check.noRange("2: kind -1", () -> x.shore(0, -1));
        Check.noRange("2: kind 4", () -> x.shore(0, 4));
    }

    private static void shoreOnlyAtFirst() {
        Slickboom x = new Slickboom();
        x.ship(3, 0);
        x.skimmer(4, 1, 1);
        x.boom(5, Slickboom.EAST, 1);
        x.team(1, true);
        Check.noState("2: a SHIP is there", () -> x.shore(3, 1));
        Check.noState("2: also to WATER", () -> x.shore(3, 0));
        Check.noState("2: a SKIMMER is there", () -> x.shore(4, 1));
        Check.noRange("2: kind ahead of SHIP", () -> x.shore(3, 4));
        Check.is("2: a BOOM is no matter", x.shore(5, 1), 0);
        x.move(0, 6);
        Check.noState("2: the SKIMMER is there now", () -> x.shore(6, 1));
        Check.is("2: and here no more", x.shore(4, 1), 0);
        Check.is("2: CELL 0 has no mean", x.shore(0, 1), 0);
        x.pass(1);
        Check.noState("2: at the HOUR 1", () -> x.shore(10, 1));
        Check.noState("2: to WATER at the HOUR 1", () -> x.shore(0, 0));
        Check.is("2: changed nothing", x.at(10, 3), 0);
        Check.noRange("2: kind ahead of HOUR", () -> x.shore(10, -1));
    }

    private static void depth() {
        Slickboom x = new Slickboom();
        x.shore(5, 2);
        Check.is("3: was 20", x.depth(0, 1), 20);
        Check.is("3: was 1", x.depth(0, 99), 1);
        Check.is("3: is 99", x.at(0, 4), 99);
        Check.is("3: another CELL", x.at(1, 4), 20);
        x.pass(5);
        Check.is("3: later, too", x.depth(0, 9), 99);
        Check.noNumber("3: cell 24, depth 0", () -> x.depth(24, 0));
        Check.noNumber("3: cell -1", () -> x.depth(-1, 1));
        Check.noRange("3: depth 0", () -> x.depth(0, 0));
        Check.noRange("3: depth 100", () -> x.depth(0, 100));
        Check.noRange("3: range ahead of SHORE", () -> x.depth(5, 0));
        Check.noState("3: a SHORE", () -> x.depth(5, 1));
        Check.is("3: changed nothing", x.at(0, 4), 9);
    }

    private static void wind() {
        Slickboom x = new Slickboom();
        Check.is("4: EAST 0 at first", x.wind(Slickboom.NORTH, 9), 0);
        Check.is("4: NORTH 9", x.wind(Slickboom.WEST, 0), 39);
        Check.noRange("4: way -1", () -> x.wind(-1, 0));
        Check.noRange("4: way 4", () -> x.wind(4, 0));
        Check.noRange("4: strength -1", () -> x.wind(0, -1));
        Check.noRange("4: strength 10", () -> x.wind(0, 10));
        Check.is("4: WEST 0 still", x.wind(Slickboom.SOUTH, 4), 10);
        Check.is("4: SOUTH 4", x.wind(0, 0), 24);
    }

    private static void ship() {
        Slickboom x = new Slickboom();
        x.shore(5, 1);
        Check.noState("5: a SHORE", () -> x.ship(5, 0));
        Check.noNumber("5: cell 24, litres -1", () -> x.ship(24, -1));
        Check.noNumber("5: cell -1", () -> x.ship(-1, 0));
        Check.noRange("5: litres -1", () -> x.ship(0, -1));
        Check.noRange("5: litres 100001", () -> x.ship(0, 100001));
        Check.noRange("5: range ahead of SHORE", () -> x.ship(5, 100001));
        Check.is("5: the first", x.ship(0, 0), 0);
        Check.is("5: in the same CELL", x.ship(0, 100000), 1);
        x.pass(1);
        Check.is("5: later", x.ship(23, 5), 2);
        Check.is("5: the fourth", x.ship(7, 6), 3);
        Check.noState("5: there are 4", () -> x.ship(7, 6));
        Check.noRange("5: range ahead of number", () -> x.ship(7, -6));
        Check.is("5: all SHIPS", x.sum(2), 100011);
        Check.is("5: rate 0 at first", x.hole(1, 0), 0);
    }

    private static void hole() {
        Slickboom x = new Slickboom();
        Check.noNumber("6: no SHIP", () -> x.hole(0, 100));
        x.ship(0, 10999);
        Check.is("6: 0 at first", x.hole(0, 99), 0);
        Check.is("6: 99 before", x.hole(0, 10), 99);
        Check.noNumber("6: -1", () -> x.hole(-1, 0));
        Check.noNumber("6: 1", () -> x.hole(1, 0));
        Check.noRange("6: rate -1", () -> x.hole(0, -1));
        Check.noRange("6: rate 100", () -> x.hole(0, 100));
        x.pass(1);
        Check.is("6: leaks 10 times the LEVEL 10 less the TIDE 1", x.shipHas(0), 10909);
        x.hole(0, 0);
        x.pass(1);
        Check.is("6: leaks no more", x.shipHas(0), 10909);
        Check.is("6: has leaked", x.sum(1), 90);
    }

    private static void pump() {
        Slickboom x = new Slickboom();
        x.ship(0, 1000);
        x.ship(1, 99500);
        Check.noNumber("7: SHIP 2", () -> x.pump(2, 2, 0));
        Check.noNumber("7: SHIP -1", () -> x.pump(-1, 0, 1));
        Check.noNumber("7: other 2", () -> x.pump(0, 2, 0));
        Check.noNumber("7: other -1", () -> x.pump(0, -1, 1));
        Check.noRange("7: the same", () -> x.pump(0, 0, 1));
        Check.noRange("7: litres 0", () -> x.pump(0, 1, 0));
        Check.noRange("7: litres -1", () -> x.pump(0, 1, -1));
        Check.noRange("7: litres 100001", () -> x.pump(1, 0, 100001));
        Check.noState("7: has fewer", () -> x.pump(0, 1, 1001));
        Check.noState("7: no room", () -> x.pump(0, 1, 501));
        Check.is("7: just room", x.pump(0, 1, 500), 100000);
        Check.is("7: less", x.shipHas(0), 500);
        Check.noState("7: full", () -> x.pump(0, 1, 1));
        Check.is("7: back, but one litre", x.pump(1, 0, 99499), 99999);
        Check.is("7: is left", x.shipHas(1), 501);
        Check.is("7: all that is left", x.pump(1, 0, 1), 100000);
        Check.noState("7: one litre too much", () -> x.pump(0, 1, 99501));
        Check.is("7: the most", x.pump(0, 1, 99500), 100000);
        Check.is("7: is left then", x.shipHas(0), 500);
        Slickboom y = new Slickboom();
        y.ship(0, 700);
        y.ship(23, 0);
        Check.is("7: all that it has", y.pump(0, 1, 700), 700);
        Check.is("7: none is left", y.shipHas(0), 0);
    }

    private static void shipHas() {
        Slickboom x = new Slickboom();
        Check.noNumber("8: none", () -> x.shipHas(0));
        x.ship(0, 2500);
        x.ship(0, 100000);
        Check.is("8: SHIP 0", x.shipHas(0), 2500);
        Check.is("8: SHIP 1", x.shipHas(1), 100000);
        Check.noNumber("8: SHIP 2", () -> x.shipHas(2));
        Check.noNumber("8: SHIP -1", () -> x.shipHas(-1));
    }

    private static void pass() {
        Slickboom x = new Slickboom();
        Check.is("9: 1", x.pass(1), 1);
        Check.is("9: 48", x.pass(48), 49);
        Check.noRange("9: 0", () -> x.pass(0));
        Check.noRange("9: -1", () -> x.pass(-1));
        Check.noRange("9: 49", () -> x.pass(49));
        for (int i = 0; i < 40; i++) {
            x.pass(48);
        }
        Check.is("9: 1969", x.sum(0), 1969);
        Check.noState("9: above 2000", () -> x.pass(32));
        Check.is("9: 2000", x.pass(31), 2000);
        Check.noState("9: 2001", () -> x.pass(1));
        Check.noRange("9: range first", () -> x.pass(49));
        Check.is("9: changed nothing", x.sum(0), 2000);
    }

    private static void at() {
        Slickboom x = new Slickboom();
        x.shore(8, Slickboom.SAND);
        x.birds(8, 10);
        x.ship(7, 100000);
        x.hole(0, 99);
        x.wind(Slickboom.EAST, 5);
        x.pass(1);
        // 9801 leak, 490 AIR, 931 thicken, 18 sink: 8380 and 913, of which 4190 and 456 would go
        Check.is("10: FRESH", x.at(7, 0), 7880);
        Check.is("10: THICK", x.at(7, 1), 913);
        Check.is("10: WATER has no STRANDED", x.at(7, 2), 0);
        Check.is("10: a SHORE has no FRESH", x.at(8, 0), 0);
        Check.is("10: a SHORE has no THICK", x.at(8, 1), 0);
        Check.is("10: STRANDED", x.at(8, 2), 500);
        Check.is("10: SAND", x.at(8, 3), 2);
        Check.is("10: depth of a SHORE", x.at(8, 4), 0);
        Check.is("10: birds with OILED ones", x.at(8, 5), 10);
        Check.is("10: OILED", x.at(8, 6), 5);
        Check.is("10: signatures", x.at(8, 7), 0);
        Check.is("10: CLEAN", x.at(8, 8), 0);
        Check.is("10: depth", x.at(7, 4), 20);
        Check.noNumber("10: cell 24", () -> x.at(24, 9));
        Check.noNumber("10: cell -1", () -> x.at(-1, 0));
        Check.noRange("10: what 9", () -> x.at(0, 9));
        Check.noRange("10: what -1", () -> x.at(0, -1));
    }
}
