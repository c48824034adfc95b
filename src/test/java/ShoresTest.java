/** Promises 21 to 29: birds, signatures, waste, claims. */
public final class ShoresTest {
    public static void main(String[] args) {
        birds();
        wash();
        sign();
        signByStrandedOil();
        site();
        deliver();
        waste();
        claim();
        layers();
        due();
        dueOfTheMost();
        Check.end();
    }

    /** A SHORE 8 filled by the WIND, at the HOUR 1, without a WIND since. */
    private static Slickboom withStranded(int kind) {
        Slickboom x = new Slickboom();
        x.shore(8, kind);
        x.ship(7, 100000);
        x.hole(0, 99);
        x.wind(Slickboom.EAST, 9);
        x.pass(1);
        x.hole(0, 0);
        x.wind(Slickboom.EAST, 0);
        return x;
    }

    private static void birds() {
        Slickboom x = new Slickboom();
        x.shore(8, Slickboom.ROCK);
        Check.is("21: 1", x.birds(8, 1), 1);
        Check.is("21: 100 more", x.birds(8, 100), 101);
        for (int i = 0; i < 8; i++) {
            x.birds(8, 100);
        }
        Check.is("21: 901", x.at(8, 5), 901);
        Check.noState("21: more than 1000", () -> x.birds(8, 100));
        Check.is("21: just 1000", x.birds(8, 99), 1000);
        Check.noState("21: one more", () -> x.birds(8, 1));
        Check.noNumber("21: cell 24", () -> x.birds(24, 0));
        Check.noNumber("21: cell -1", () -> x.birds(-1, 1));
        Check.noRange("21: 0", () -> x.birds(8, 0));
        Check.noRange("21: 101", () -> x.birds(8, 101));
        Check.noRange("21: range ahead of WATER", () -> x.birds(7, 101));
        Check.noState("21: WATER", () -> x.birds(7, 1));
        Slickboom y = withStranded(Slickboom.SAND);
        y.birds(8, 10);
        y.pass(1);
        Check.is("21: 5 are OILED", y.at(8, 6), 5);
        Check.is("21: OILED ones with them", y.birds(8, 3), 13);
        Check.is("21: 5 still", y.at(8, 6), 5);
    }

    private static void wash() {
        Slickboom x = withStranded(Slickboom.SAND);
        Check.is("22: no birds", x.wash(8, 1), 0);
        x.birds(8, 10);
        Check.is("22: none OILED yet", x.wash(8, 100), 0);
        x.pass(1);
        Check.is("22: as many as told", x.wash(8, 2), 2);
        Check.is("22: OILED then", x.at(8, 6), 3);
        Check.is("22: birds stay", x.at(8, 5), 10);
        Check.is("22: all, if there are fewer", x.wash(8, 100), 3);
        Check.is("22: none", x.at(8, 6), 0);
        x.pass(1);
        Check.is("22: OILED anew", x.at(8, 6), 5);
        Check.noNumber("22: cell 24", () -> x.wash(24, 0));
        Check.noNumber("22: cell -1", () -> x.wash(-1, 1));
        Check.noRange("22: 0", () -> x.wash(8, 0));
        Check.noRange("22: 101", () -> x.wash(8, 101));
        Check.noRange("22: range ahead of WATER", () -> x.wash(7, 0));
        Check.noState("22: WATER", () -> x.wash(7, 1));
    }

    private static void sign() {
        Slickboom x = new Slickboom();
        x.shore(8, Slickboom.MARSH);
        Check.is("23: one", x.sign(8, 1), false);
        Check.is("23: as a sum", x.at(8, 7), 2);
        Check.is("23: not CLEAN", x.at(8, 8), 0);
        Check.noState("23: again", () -> x.sign(8, 1));
        Check.is("23: two", x.sign(8, 2), true);
        Check.is("23: as a sum of two", x.at(8, 7), 6);
        Check.is("23: CLEAN", x.at(8, 8), 1);
        Check.is("23: three", x.sign(8, 0), true);
        Check.is("23: as a sum of three", x.at(8, 7), 7);
        Check.is("23: CLEAN still", x.at(8, 8), 1);
        for (int who = 0; who < 3; who++) {
            int by = who;
            Check.noState("23: was signed by " + who, () -> x.sign(8, by));
        }
        Check.noNumber("23: cell 24", () -> x.sign(24, 3));
        Check.noNumber("23: cell -1", () -> x.sign(-1, 0));
        Check.noRange("23: who 3", () -> x.sign(8, 3));
        Check.noRange("23: who -1", () -> x.sign(8, -1));
        Check.noRange("23: range ahead of WATER", () -> x.sign(7, 3));
        Check.noState("23: WATER", () -> x.sign(7, 0));
        Slickboom y = new Slickboom();
        y.shore(0, 1);
        y.sign(0, 0);
        Check.is("23: 0 and 1", y.sign(0, 1), true);
        y.pass(48);
        Check.is("23: HOURS without oil take none", y.at(0, 7), 3);
    }

    private static void signByStrandedOil() {
        // what leaks by the WIND 9, how many litres strand of it then, the most that can be signed
        int[] kinds = {Slickboom.ROCK, Slickboom.ROCK, Slickboom.SAND, Slickboom.SAND, Slickboom.MARSH, Slickboom.MARSH};
        int[] rates = {12, 13, 30, 31, 59, 61};
        int[] stranded = {9, 10, 25, 26, 50, 51};
        boolean[] signs = {true, true, true, false, true, false};
        for (int i = 0; i < 6; i++) {
            Slickboom x = new Slickboom();
            x.shore(8, kinds[i]);
            x.ship(7, 2000);
            x.hole(0, rates[i]);
            x.wind(Slickboom.EAST, 9);
            x.pass(1);
            Check.is("23: STRANDED by " + rates[i], x.at(8, 2), stranded[i]);
            if (signs[i]) {
                Check.is("23: a twentieth", x.sign(8, 0), false);
            } else {
                Check.noState("23: more than a twentieth", () -> x.sign(8, 0));
                x.team(1, true);
                x.clean(0, 8);
                Check.is("23: cleaned", x.sign(8, 0), false);
            }
        }
        Slickboom full = withStranded(Slickboom.ROCK);
        Check.noState("23: full", () -> full.sign(8, 0));
        full.team(19, true);
        full.clean(0, 8);
        Check.is("23: 10 of 200 are left", full.at(8, 2), 10);
        Check.is("23: just a twentieth of 200", full.sign(8, 2), false);
    }

    private static void site() {
        Slickboom x = new Slickboom();
        Check.noRange("24: liquid -1", () -> x.site(-1, 0));
        Check.noRange("24: liquid 100001", () -> x.site(100001, 0));
        Check.noRange("24: solid -1", () -> x.site(0, -1));
        Check.noRange("24: solid 100001", () -> x.site(0, 100001));
        Check.is("24: the first", x.site(0, 100000), 0);
        Check.is("24: the second", x.site(100000, 0), 1);
        Check.is("24: the third", x.site(0, 0), 2);
        Check.noState("24: there are 3", () -> x.site(0, 0));
        Check.noRange("24: range ahead", () -> x.site(0, -1));
    }

    private static Slickboom withWaste() {
        Slickboom x = withStranded(Slickboom.SAND);
        x.skimmer(7, 500, 5000);
        x.team(50, true);
        x.pass(1);
        x.carry(0);
        x.clean(1, 8);
        Check.is("26: LIQUID", x.waste(Slickboom.LIQUID), 500);
        Check.is("26: SOLID", x.waste(Slickboom.SOLID), 500);
        return x;
    }

    private static void deliver() {
        Slickboom x = withWaste();
        Check.noNumber("25: no SITE", () -> x.deliver(0, 2, 0));
        x.site(300, 700);
        x.site(10, 20);
        Check.noNumber("25: SITE 2", () -> x.deliver(2, 0, 1));
        Check.noNumber("25: SITE -1", () -> x.deliver(-1, 0, 1));
        Check.noRange("25: sort 2", () -> x.deliver(0, 2, 1));
        Check.noRange("25: sort -1", () -> x.deliver(0, -1, 1));
        Check.noRange("25: litres 0", () -> x.deliver(0, 0, 0));
        Check.noRange("25: litres 100001", () -> x.deliver(0, 0, 100001));
        Check.noState("25: less room", () -> x.deliver(0, Slickboom.LIQUID, 301));
        Check.noState("25: less waste", () -> x.deliver(0, Slickboom.SOLID, 501));
        Check.is("25: room then", x.deliver(0, Slickboom.LIQUID, 100), 200);
        Check.is("25: room of SOLID is another", x.deliver(0, Slickboom.SOLID, 499), 201);
        Check.is("25: all room", x.deliver(0, Slickboom.LIQUID, 200), 0);
        Check.noState("25: no room", () -> x.deliver(0, Slickboom.LIQUID, 1));
        Check.is("25: another SITE", x.deliver(1, Slickboom.LIQUID, 3), 7);
        Check.is("25: its room of SOLID", x.deliver(1, Slickboom.SOLID, 1), 19);
        Check.noState("25: no waste", () -> x.deliver(1, Slickboom.SOLID, 1));
        Check.is("26: LIQUID left", x.waste(Slickboom.LIQUID), 197);
        Check.is("26: SOLID left", x.waste(Slickboom.SOLID), 0);
        Check.is("32: delivered or not", x.sum(11), 1000);
    }

    private static void waste() {
        Slickboom x = new Slickboom();
        Check.is("26: none", x.waste(Slickboom.LIQUID), 0);
        Check.noRange("26: -1", () -> x.waste(-1));
        Check.noRange("26: 2", () -> x.waste(2));
    }

    private static void claim() {
        Slickboom x = new Slickboom();
        Check.noRange("27: 0", () -> x.claim(0));
        Check.noRange("27: 1000001", () -> x.claim(1000001));
        for (int i = 0; i < 20; i++) {
            Check.is("27: number", x.claim(i == 0 ? 1000000 : 1), i);
        }
        Check.noState("27: there are 20", () -> x.claim(1));
        Check.noRange("27: range ahead", () -> x.claim(0));
        Check.is("27: the last one", x.due(19, 0), 0);
    }

    private static void layers() {
        Slickboom x = new Slickboom();
        Check.is("28: 0 at first", x.layers(10000000, 10000000), 0);
        Check.is("28: both", x.layers(3, 4), 20000000);
        Check.noRange("28: owner -1", () -> x.layers(-1, 0));
        Check.noRange("28: owner 10000001", () -> x.layers(10000001, 0));
        Check.noRange("28: fund -1", () -> x.layers(0, -1));
        Check.noRange("28: fund 10000001", () -> x.layers(0, 10000001));
        Check.is("28: changed nothing", x.layers(0, 0), 7);
    }

    private static void due() {
        Slickboom x = new Slickboom();
        Check.noNumber("29: no CLAIM", () -> x.due(0, 2));
        x.claim(600);
        x.claim(300);
        x.claim(101);
        Check.noNumber("29: CLAIM 3", () -> x.due(3, 0));
        Check.noNumber("29: CLAIM -1", () -> x.due(-1, 0));
        Check.noRange("29: what 2", () -> x.due(0, 2));
        Check.noRange("29: what -1", () -> x.due(0, -1));
        Check.is("29: nothing from the owner", x.due(0, 0), 0);
        Check.is("29: nothing from the fund", x.due(0, 1), 0);
        x.layers(500, 200);
        // 700 of 1001: 419, 209, 70; of these 500 of 700
        int[][] due = {{299, 120}, {149, 60}, {50, 20}};
        for (int claim = 0; claim < 3; claim++) {
            Check.is("29: from the owner", x.due(claim, 0), due[claim][0]);
            Check.is("29: from the fund", x.due(claim, 1), due[claim][1]);
        }
        x.layers(2000, 100);
        Check.is("29: the owner pays all", x.due(2, 0), 101);
        Check.is("29: the fund nothing", x.due(2, 1), 0);
        x.layers(0, 2000);
        Check.is("29: the owner nothing", x.due(2, 0), 0);
        Check.is("29: the fund all", x.due(2, 1), 101);
        x.layers(500, 501);
        Check.is("29: both just all", x.due(0, 0) + x.due(0, 1), 600);
        Check.is("29: 600 times 500 by 1001", x.due(0, 0), 299);
        x.claim(1001);
        Check.is("29: half is left", x.due(0, 0) + x.due(0, 1), 300);
    }

    private static void dueOfTheMost() {
        Slickboom x = new Slickboom();
        for (int i = 0; i < 20; i++) {
            x.claim(1000000);
        }
        x.layers(10000000, 9999999);
        // 1000000 times 19999999 by 20000000, of that 10000000 by 19999999
        Check.is("29: from the owner", x.due(0, 0), 499999);
        Check.is("29: from the fund", x.due(0, 1), 500000);
        x.layers(10000000, 10000000);
        Check.is("29: half", x.due(19, 0), 500000);
        Check.is("29: the other half", x.due(19, 1), 500000);
    }
}
