import java.util.function.Supplier;

/** Promises 21 to 29: birds, signatures, waste, claims. What an HOUR does to them is in HourTest. */
public final class ShoresTest {
    public static void main(String[] args) {
        birdsAreMore();
        birdsInACell();
        birdsSoMany();
        birdsOnWater();
        birdsUpTo1000();
        washesAsManyAsTold();
        washesAll();
        washInACell();
        washSoMany();
        washOnWater();
        signsAShore();
        signsWithTwo();
        signInACell();
        signByThree();
        signOnWater();
        signWithStrandedOil();
        signTwice();
        siteIsTold();
        siteWithLiquidRoom();
        siteWithSolidRoom();
        threeSites();
        deliverTakesWasteAndRoom();
        deliverToASite();
        deliverASort();
        deliverLitres();
        deliverMostLitres();
        deliverWhatThereIs();
        deliverWhatThereIsRoomFor();
        wasteNotDelivered();
        wasteOfASort();
        claimIsMade();
        claimOfCents();
        twentyClaims();
        layersAreTold();
        layersOfTheOwner();
        layersOfTheFund();
        dueOfTheLesserOne();
        dueOfNothing();
        dueByAllClaims();
        dueFromTheOwner();
        dueFromTheFund();
        dueOfTheMost();
        dueOfAClaim();
        dueInRange();
        Check.end();
    }

    private static Supplier<Slickboom> withBirds(int many) {
        return () -> {
            Slickboom x = new Slickboom();
            x.shore(8, Slickboom.ROCK);
            for (int left = many; left > 0; left -= 100) {
                x.birds(8, Math.min(left, 100));
            }
            return x;
        };
    }

    // ---- birds

    /** Promise 21: "Tells of more birds on a SHORE.", "Returns how many there are then, OILED ones with them." */
    private static void birdsAreMore() {
        Slickboom x = Bays.blown(Slickboom.SAND, 500, y -> y.birds(8, 10));
        Check.is("21: 5 are OILED", x.at(8, 6), 5);
        Check.is("21: OILED ones with them", x.birds(8, 3), 13);
        Check.is("21: birds", x.at(8, 5), 13);
        Check.is("21: 5 are OILED still", x.at(8, 6), 5);
        for (int kind = Slickboom.ROCK; kind <= Slickboom.MARSH; kind++) {
            Slickboom y = new Slickboom();
            y.shore(9, kind);
            Check.is("21: the first one on the kind " + kind, y.birds(9, 1), 1);
            Check.is("21: more", y.birds(9, 7), 8);
        }
    }

    /** Promise 21: "cell: 0 to 23", "Throws IndexOutOfBoundsException if there is no such CELL" */
    private static void birdsInACell() {
        for (int cell = 0; cell < 24; cell += 23) {
            Slickboom x = new Slickboom();
            x.shore(cell, Slickboom.ROCK);
            Check.is("21: in the CELL " + cell, x.birds(cell, 4), 4);
            Check.is("21: they are in " + cell, x.at(cell, 5), 4);
        }
        Refused.numbers("21: cell", 24, Bays::busy, (y, cell) -> y.birds(cell, 5));
    }

    /** Promise 21: "many: 1 to 100", "Throws IllegalArgumentException if many is out of range" */
    private static void birdsSoMany() {
        Check.is("21: the least", withBirds(0).get().birds(8, 1), 1);
        Check.is("21: the most", withBirds(0).get().birds(8, 100), 100);
        Refused.ranges("21: many", 1, 100, Bays::busy, (y, many) -> y.birds(8, many));
    }

    /** Promise 21: "Throws IllegalStateException if it is WATER" */
    private static void birdsOnWater() {
        for (int cell : new int[] {0, 7, 9, 23}) {
            Refused.state("21: WATER, " + cell, Bays::busy, x -> x.birds(cell, 5));
        }
        Check.is("21: a SHORE is beside it", Bays.busy().birds(8, 5), 45);
    }

    /** Promise 21: "or there would be more than 1000" */
    private static void birdsUpTo1000() {
        Check.is("21: just 1000", withBirds(900).get().birds(8, 100), 1000);
        Check.is("21: just 1000 by 99", withBirds(901).get().birds(8, 99), 1000);
        Check.is("21: just 1000 by 1", withBirds(999).get().birds(8, 1), 1000);
        Check.is("21: 999", withBirds(900).get().birds(8, 99), 999);
        Refused.state("21: 1001", withBirds(901), x -> x.birds(8, 100));
        Refused.state("21: 1001 by 2", withBirds(999), x -> x.birds(8, 2));
        Refused.state("21: 1001 by 1", withBirds(1000), x -> x.birds(8, 1));
        Slickboom x = withBirds(1000).get();
        Check.is("21: are they 1000", x.at(8, 5), 1000);
    }

    // ---- wash

    /** Five of ten birds are OILED. */
    private static Slickboom withOiled() {
        return Bays.blown(Slickboom.SAND, 500, y -> y.birds(8, 10));
    }

    /**
     * Promise 22: "Washes OILED birds, as many as told", "Returns how many.", "To wash OILED ones makes them birds
     * that are not."
     */
    private static void washesAsManyAsTold() {
        Slickboom x = withOiled();
        Check.is("22: one", x.wash(8, 1), 1);
        Check.is("22: 4 are OILED still", x.at(8, 6), 4);
        Check.is("22: three", x.wash(8, 3), 3);
        Check.is("22: one is OILED still", x.at(8, 6), 1);
        Check.is("22: birds stay", x.at(8, 5), 10);
        x.pass(1);
        Check.is("22: they can become OILED anew", x.at(8, 6), 6);
    }

    /** Promise 22: "or all, if there are fewer." */
    private static void washesAll() {
        for (int many = 4; many <= 6; many++) {
            Slickboom x = withOiled();
            Check.is("22: of 5 by " + many, x.wash(8, many), Math.min(many, 5));
            Check.is("22: left by " + many, x.at(8, 6), 5 - Math.min(many, 5));
            Check.is("22: birds stay", x.at(8, 5), 10);
        }
        Slickboom x = withOiled();
        x.wash(8, 100);
        Check.is("22: of none that is OILED", x.wash(8, 100), 0);
        Check.is("22: birds that are not stay so", x.at(8, 5), 10);
        Check.is("22: without birds", withBirds(0).get().wash(8, 1), 0);
    }

    /** Promise 22: "cell: 0 to 23", "Throws IndexOutOfBoundsException if there is no such CELL" */
    private static void washInACell() {
        Slickboom x = new Slickboom();
        x.shore(0, Slickboom.ROCK);
        x.shore(23, Slickboom.ROCK);
        Check.is("22: in the first CELL", x.wash(0, 1), 0);
        Check.is("22: in the last CELL", x.wash(23, 1), 0);
        Refused.numbers("22: cell", 24, Bays::busy, (y, cell) -> y.wash(cell, 5));
    }

    /** Promise 22: "many: 1 to 100", "Throws IllegalArgumentException if many is out of range" */
    private static void washSoMany() {
        Slickboom x = Bays.blown(Slickboom.MARSH, 1000, y -> {
            y.birds(8, 100);
            y.birds(8, 5);
        });
        x.pass(12);
        Check.is("22: all are OILED", x.at(8, 6), 105);
        Check.is("22: the most", x.wash(8, 100), 100);
        Check.is("22: the least", x.wash(8, 1), 1);
        Check.is("22: four are left", x.wash(8, 100), 4);
        Refused.ranges("22: many", 1, 100, Bays::busy, (y, many) -> y.wash(8, many));
    }

    /** Promise 22: "Throws IllegalStateException if it is WATER" */
    private static void washOnWater() {
        for (int cell : new int[] {0, 7, 9, 23}) {
            Refused.state("22: WATER, " + cell, Bays::busy, x -> x.wash(cell, 5));
        }
        Check.is("22: a SHORE is beside it", Bays.busy().wash(8, 100), 7);
    }

    // ---- sign

    /** Promise 23: "Signs a SHORE." */
    private static void signsAShore() {
        Slickboom x = new Slickboom();
        x.shore(8, Slickboom.MARSH);
        x.shore(9, Slickboom.MARSH);
        x.sign(8, 1);
        Check.is("23: it is signed by 1", x.at(8, 7), 2);
        x.sign(8, 2);
        Check.is("23: and by 2", x.at(8, 7), 6);
        x.sign(8, 0);
        Check.is("23: and by 0", x.at(8, 7), 7);
        Check.is("23: another one is not", x.at(9, 7), 0);
        Check.is("23: they can sign it, too", x.sign(9, 1), false);
        x.pass(48);
        Check.is("23: it stays signed without oil", x.at(8, 7), 7);
    }

    /** Promise 23: "Returns whether it is CLEAN then.", "with two signatures it is CLEAN." */
    private static void signsWithTwo() {
        int[][] orders = {{0, 1, 2}, {0, 2, 1}, {1, 0, 2}, {1, 2, 0}, {2, 0, 1}, {2, 1, 0}};
        for (int[] order : orders) {
            Slickboom x = new Slickboom();
            x.shore(8, Slickboom.ROCK);
            Check.is("23: not CLEAN without any", x.at(8, 8), 0);
            Check.is("23: not CLEAN by one", x.sign(8, order[0]), false);
            Check.is("23: at, by one", x.at(8, 8), 0);
            Check.is("23: CLEAN by two", x.sign(8, order[1]), true);
            Check.is("23: at, by two", x.at(8, 8), 1);
            Check.is("23: CLEAN by three", x.sign(8, order[2]), true);
            Check.is("23: at, by three", x.at(8, 8), 1);
        }
    }

    /** Promise 23: "cell: 0 to 23", "Throws IndexOutOfBoundsException if there is no such CELL" */
    private static void signInACell() {
        for (int cell = 0; cell < 24; cell += 23) {
            Slickboom x = new Slickboom();
            x.shore(cell, Slickboom.ROCK);
            Check.is("23: in the CELL " + cell, x.sign(cell, 0), false);
            Check.is("23: it is signed in " + cell, x.at(cell, 7), 1);
        }
        Refused.numbers("23: cell", 24, Bays::busy, (y, cell) -> y.sign(cell, 0));
    }

    /**
     * Promise 23: "who: 0 to 2", "Throws IllegalArgumentException if who is out of range", "Three people, 0 to 2, can
     * sign a SHORE"
     */
    private static void signByThree() {
        for (int who = 0; who <= 2; who++) {
            Slickboom x = new Slickboom();
            x.shore(8, Slickboom.ROCK);
            x.sign(8, who);
            Check.is("23: signed by " + who, x.at(8, 7), 1 << who);
        }
        Refused.ranges("23: who", 0, 2, Bays::busy, (y, who) -> y.sign(5, who));
        Refused.range("23: who 32", Bays::busy, y -> y.sign(5, 32));
    }

    /** Promise 23: "Throws IllegalStateException if it is WATER" */
    private static void signOnWater() {
        for (int cell : new int[] {0, 7, 9, 23}) {
            Refused.state("23: WATER, " + cell, Bays::busy, x -> x.sign(cell, 0));
        }
    }

    /**
     * Promise 23: "has too much STRANDED oil", "can sign a SHORE that has no more STRANDED oil than a twentieth of
     * what it holds"
     */
    private static void signWithStrandedOil() {
        int[] twentieth = {0, 10, 25, 50};
        int[] holds = {0, 200, 500, 1000};
        for (int i = Slickboom.ROCK; i <= Slickboom.MARSH; i++) {
            int kind = i;
            for (int litres : new int[] {0, twentieth[kind] - 1, twentieth[kind]}) {
                Check.is("23: the kind " + kind + " with " + litres, Bays.blown(kind, litres).sign(8, 1), false);
            }
            for (int litres : new int[] {twentieth[kind] + 1, holds[kind]}) {
                Refused.state("23: the kind " + kind + " with " + litres, () -> Bays.blown(kind, litres),
                        x -> x.sign(8, 1));
            }
            Slickboom x = Bays.blown(kind, twentieth[kind] + 1);
            x.team(1, true);
            x.clean(0, 8);
            Check.is("23: cleaned", x.sign(8, 1), false);
        }
    }

    /** Promise 23: "or was signed by them" */
    private static void signTwice() {
        for (int i = 0; i <= 2; i++) {
            int who = i;
            Refused.state("23: was signed by " + who, () -> {
                Slickboom x = new Slickboom();
                x.shore(8, Slickboom.ROCK);
                x.sign(8, who);
                return x;
            }, x -> x.sign(8, who));
        }
        Refused.state("23: was signed by two, and by 2 of them", Bays::busy, x -> x.sign(5, 2));
        Check.is("23: not by 0", Bays.busy().sign(5, 0), true);
        // what is lost can be signed anew
        Slickboom x = Bays.blown(Slickboom.ROCK, 11, y -> y.sign(8, 1));
        x.team(1, true);
        x.clean(0, 8);
        Check.is("23: lost", x.at(8, 7), 0);
        Check.is("23: anew", x.sign(8, 1), false);
    }

    // ---- sites and waste; 500 litres of each sort can be had

    private static Slickboom withWaste() {
        Slickboom x = Bays.blown(Slickboom.SAND, 500);
        x.hole(0, 99);
        x.skimmer(7, 500, 5000);
        x.team(50, true);
        x.pass(1);
        x.carry(0);
        x.clean(1, 8);
        x.site(300, 700);
        x.site(1000, 20);
        return x;
    }

    /**
     * Promise 24: "Tells a SITE.", "Returns its number.", "SITES are numbered from 0", "with room for LIQUID and for
     * SOLID waste."
     */
    private static void siteIsTold() {
        Slickboom x = withWaste();
        Check.is("24: the third", x.site(7, 8), 2);
        Check.is("24: its room for LIQUID", x.deliver(2, Slickboom.LIQUID, 1), 6);
        Check.is("24: its room for SOLID", x.deliver(2, Slickboom.SOLID, 1), 7);
        Check.is("24: the first one's for LIQUID", x.deliver(0, Slickboom.LIQUID, 1), 299);
        Check.is("24: the first one's for SOLID", x.deliver(0, Slickboom.SOLID, 1), 699);
        Check.is("24: the first number", new Slickboom().site(1, 1), 0);
    }

    /** Promise 24: "liquid: 0 to 100000", "Throws IllegalArgumentException if an argument is out of range" */
    private static void siteWithLiquidRoom() {
        Check.is("24: the most of LIQUID", withRoomFor(100000, 0).deliver(2, Slickboom.LIQUID, 1), 99999);
        Refused.state("24: the least of LIQUID", () -> withRoomFor(0, 100000), y -> y.deliver(2, Slickboom.LIQUID, 1));
        Refused.ranges("24: liquid", 0, 100000, Bays::busy, (y, liquid) -> y.site(liquid, 5));
    }

    /** Promise 24: "solid: 0 to 100000", "Throws IllegalArgumentException if an argument is out of range" */
    private static void siteWithSolidRoom() {
        Check.is("24: the most of SOLID", withRoomFor(0, 100000).deliver(2, Slickboom.SOLID, 1), 99999);
        Refused.state("24: the least of SOLID", () -> withRoomFor(100000, 0), y -> y.deliver(2, Slickboom.SOLID, 1));
        Refused.ranges("24: solid", 0, 100000, Bays::busy, (y, solid) -> y.site(5, solid));
    }

    private static Slickboom withRoomFor(int liquid, int solid) {
        Slickboom x = withWaste();
        x.site(liquid, solid);
        return x;
    }

    /** Promise 24: "Throws IllegalStateException if there are 3", "SITES are numbered from 0, up to 3" */
    private static void threeSites() {
        Check.is("24: the third", Bays.busy().site(5, 5), 2);
        Refused.state("24: there are 3", Bays::full, x -> x.site(5, 5));
        Refused.state("24: there are 3 without room", () -> withRoomFor(0, 0), x -> x.site(0, 0));
    }

    /**
     * Promise 25: "Delivers waste to a SITE.", "Returns the room for that sort then.", "To deliver waste takes it,
     * and room."
     */
    private static void deliverTakesWasteAndRoom() {
        Slickboom x = withWaste();
        Check.is("25: room for LIQUID then", x.deliver(0, Slickboom.LIQUID, 100), 200);
        Check.is("25: LIQUID waste is taken", x.waste(Slickboom.LIQUID), 400);
        Check.is("25: SOLID waste is not", x.waste(Slickboom.SOLID), 500);
        Check.is("25: room for SOLID then", x.deliver(0, Slickboom.SOLID, 499), 201);
        Check.is("25: SOLID waste is taken", x.waste(Slickboom.SOLID), 1);
        Check.is("25: LIQUID waste is not", x.waste(Slickboom.LIQUID), 400);
        Check.is("25: room for LIQUID again", x.deliver(0, Slickboom.LIQUID, 1), 199);
        Check.is("25: of another SITE", x.deliver(1, Slickboom.LIQUID, 3), 997);
        Check.is("25: of another SITE, SOLID", x.deliver(1, Slickboom.SOLID, 1), 19);
        Check.is("25: all of it is counted", x.sum(11), 1000);
    }

    /** Promise 25: "site: a SITE", "Throws IndexOutOfBoundsException if there is no such SITE" */
    private static void deliverToASite() {
        Slickboom x = withRoomFor(40, 40);
        Check.is("25: the first", x.deliver(0, Slickboom.LIQUID, 1), 299);
        Check.is("25: the last", x.deliver(2, Slickboom.LIQUID, 1), 39);
        Refused.numbers("25: SITE of 3,", 3, () -> withRoomFor(40, 40), (y, site) -> y.deliver(site, 0, 1));
        Refused.numbers("25: SITE of 2,", 2, ShoresTest::withWaste, (y, site) -> y.deliver(site, 1, 1));
        Refused.numbers("25: SITE of none,", 0, Slickboom::new, (y, site) -> y.deliver(site, 0, 1));
    }

    /** Promise 25: "sort: LIQUID or SOLID", "Throws IllegalArgumentException if sort or litres is out of range" */
    private static void deliverASort() {
        Check.is("25: the first sort", withWaste().deliver(1, Slickboom.LIQUID, 1), 999);
        Check.is("25: the last sort", withWaste().deliver(1, Slickboom.SOLID, 1), 19);
        Refused.ranges("25: sort", Slickboom.LIQUID, Slickboom.SOLID, ShoresTest::withWaste,
                (y, sort) -> y.deliver(0, sort, 1));
    }

    /** Promise 25: "litres: 1 to 100000", "Throws IllegalArgumentException if sort or litres is out of range" */
    private static void deliverLitres() {
        Check.is("25: the least", withWaste().deliver(0, Slickboom.LIQUID, 1), 299);
        Refused.ranges("25: litres", 1, 100000, ShoresTest::withWaste, (y, litres) -> y.deliver(0, 0, litres));
        Refused.ranges("25: litres", 1, 100000, ShoresTest::withWaste, (y, litres) -> y.deliver(0, 1, litres));
        Refused.range("25: one litre more than the most, of which there are enough", ShoresTest::withMostWaste,
                y -> y.deliver(0, Slickboom.LIQUID, 100001));
    }

    /** Promise 25: "litres: 1 to 100000" */
    private static void deliverMostLitres() {
        Slickboom x = withMostWaste();
        Check.is("25: the most", x.deliver(0, Slickboom.LIQUID, 100000), 0);
        Check.is("25: the rest stays", x.waste(Slickboom.LIQUID), 14000);
        Check.is("25: all of it is counted", x.sum(11), 114000);
    }

    /** 114000 litres of LIQUID waste: of 19 SKIMMERS that were full, and took 1000 each then. */
    private static Slickboom withMostWaste() {
        Slickboom x = new Slickboom();
        for (int ship = 0; ship < 4; ship++) {
            x.hole(x.ship(7, 100000), 99);
        }
        for (int i = 0; i < 19; i++) {
            x.skimmer(7, 500, 5000);
        }
        for (int hours = 10; hours >= 2; hours -= 8) {
            x.pass(hours);
            for (int i = 0; i < 19; i++) {
                x.carry(i);
            }
        }
        Check.is("26: LIQUID waste", x.waste(Slickboom.LIQUID), 114000);
        x.site(100000, 100000);
        return x;
    }

    /** Promise 25: "Throws IllegalStateException if there is less waste of that sort" */
    private static void deliverWhatThereIs() {
        Check.is("25: all that there is", withWaste().deliver(1, Slickboom.LIQUID, 500), 500);
        Refused.state("25: one litre more", ShoresTest::withWaste, x -> x.deliver(1, Slickboom.LIQUID, 501));
        Check.is("25: all SOLID that there is", withWaste().deliver(0, Slickboom.SOLID, 500), 200);
        Refused.state("25: one litre more of SOLID", ShoresTest::withWaste, x -> x.deliver(0, Slickboom.SOLID, 501));
        Refused.state("25: nothing is left", () -> {
            Slickboom x = withWaste();
            x.deliver(1, Slickboom.LIQUID, 500);
            return x;
        }, x -> x.deliver(1, Slickboom.LIQUID, 1));
        Refused.state("25: nothing ever was", () -> {
            Slickboom x = new Slickboom();
            x.site(10, 10);
            return x;
        }, x -> x.deliver(0, Slickboom.SOLID, 1));
    }

    /** Promise 25: "or less room" */
    private static void deliverWhatThereIsRoomFor() {
        Check.is("25: all room", withWaste().deliver(0, Slickboom.LIQUID, 300), 0);
        Refused.state("25: one litre more", ShoresTest::withWaste, x -> x.deliver(0, Slickboom.LIQUID, 301));
        Check.is("25: all room for SOLID", withWaste().deliver(1, Slickboom.SOLID, 20), 0);
        Refused.state("25: one litre more of SOLID", ShoresTest::withWaste, x -> x.deliver(1, Slickboom.SOLID, 21));
        Refused.state("25: no room is left", () -> {
            Slickboom x = withWaste();
            x.deliver(0, Slickboom.LIQUID, 300);
            return x;
        }, x -> x.deliver(0, Slickboom.LIQUID, 1));
    }

    /** Promise 26: "Returns how much waste of a sort was not delivered yet.", "Returns the litres." */
    private static void wasteNotDelivered() {
        Slickboom x = withWaste();
        x.deliver(1, Slickboom.LIQUID, 20);
        x.deliver(0, Slickboom.SOLID, 3);
        Check.is("26: LIQUID", x.waste(Slickboom.LIQUID), 480);
        Check.is("26: SOLID", x.waste(Slickboom.SOLID), 497);
        x.deliver(1, Slickboom.LIQUID, 480);
        Check.is("26: none of LIQUID", x.waste(Slickboom.LIQUID), 0);
        Twins.same("26: asking changes nothing", ShoresTest::withWaste, y -> y.waste(Slickboom.SOLID));
    }

    /** Promise 26: "sort: LIQUID or SOLID", "Throws IllegalArgumentException if sort is out of range" */
    private static void wasteOfASort() {
        Slickboom x = Bays.busy();
        Check.is("26: the first sort", x.waste(Slickboom.LIQUID), 200);
        Check.is("26: the last sort", x.waste(Slickboom.SOLID), 80);
        Refused.ranges("26: sort", Slickboom.LIQUID, Slickboom.SOLID, Bays::busy, (y, sort) -> y.waste(sort));
    }

    // ---- claims

    private static Slickboom claims(int... cents) {
        Slickboom x = new Slickboom();
        for (int claim = 0; claim < cents.length; claim++) {
            Check.is("27: the number", x.claim(cents[claim]), claim);
        }
        return x;
    }

    /** Promise 27: "Makes a CLAIM.", "Returns its number.", "CLAIMS are numbered from 0", "in cents." */
    private static void claimIsMade() {
        Slickboom x = claims(500, 500, 7);
        x.layers(0, 10000);
        Check.is("27: the first", x.due(0, 1), 500);
        Check.is("27: the same cents once more", x.due(1, 1), 500);
        Check.is("27: the third", x.due(2, 1), 7);
    }

    /** Promise 27: "cents: 1 to 1000000", "Throws IllegalArgumentException if cents is out of range" */
    private static void claimOfCents() {
        Slickboom x = claims(1, 1000000);
        x.layers(0, 10000000);
        Check.is("27: the least", x.due(0, 1), 1);
        Check.is("27: the most", x.due(1, 1), 1000000);
        Refused.ranges("27: cents", 1, 1000000, Bays::busy, (y, cents) -> y.claim(cents));
    }

    /** Promise 27: "Throws IllegalStateException if there are 20", "CLAIMS are numbered from 0, up to 20" */
    private static void twentyClaims() {
        Slickboom x = new Slickboom();
        for (int claim = 0; claim < 20; claim++) {
            Check.is("27: up to 20", x.claim(100 + claim), claim);
        }
        x.layers(0, 10000);
        Check.is("27: the twentieth", x.due(19, 1), 119);
        Refused.state("27: there are 20", Bays::full, y -> y.claim(1));
    }

    /**
     * Promise 28: "Tells the LAYERS.", "Returns what both were, together.", "There are two LAYERS: what the owner
     * pays at most, and the fund"
     */
    private static void layersAreTold() {
        Slickboom x = claims(1000);
        Check.is("28: 0 at first", x.layers(300, 40), 0);
        Check.is("28: the owner pays at most", x.due(0, 0), 300);
        Check.is("28: the fund", x.due(0, 1), 40);
        Check.is("28: both were", x.layers(2, 1), 340);
        Check.is("28: told anew, not more", x.due(0, 0), 2);
        Check.is("28: both were then", x.layers(0, 0), 3);
        Check.is("28: none", x.due(0, 0) + x.due(0, 1), 0);
    }

    /** Promise 28: "owner: 0 to 10000000", "Throws IllegalArgumentException if an argument is out of range" */
    private static void layersOfTheOwner() {
        Slickboom x = new Slickboom();
        x.layers(10000000, 1);
        Check.is("28: the most of the owner", x.layers(0, 1), 10000001);
        Check.is("28: the least of the owner", x.layers(0, 0), 1);
        Refused.ranges("28: owner", 0, 10000000, Bays::busy, (y, owner) -> y.layers(owner, 5));
    }

    /** Promise 28: "fund: 0 to 10000000", "Throws IllegalArgumentException if an argument is out of range" */
    private static void layersOfTheFund() {
        Slickboom x = new Slickboom();
        x.layers(1, 10000000);
        Check.is("28: the most of the fund", x.layers(1, 0), 10000001);
        Check.is("28: the least of the fund", x.layers(10000000, 10000000), 1);
        Check.is("28: the most of both", x.layers(0, 0), 20000000);
        Refused.ranges("28: fund", 0, 10000000, Bays::busy, (y, fund) -> y.layers(5, fund));
    }

    private static void gets(String what, Slickboom x, int claim, int owner, int fund) {
        Check.is("29: " + what + ", from the owner", x.due(claim, 0), owner);
        Check.is("29: " + what + ", from the fund", x.due(claim, 1), fund);
    }

    /**
     * Promise 29: "Returns what a CLAIM gets.", "Returns the cents.", "What all get is the lesser one of both LAYERS,
     * together, and all CLAIMS, together."
     */
    private static void dueOfTheLesserOne() {
        // 1000 in all: both LAYERS are one cent less than that, the same, one cent more
        for (int both = 999; both <= 1001; both++) {
            Slickboom x = claims(1000);
            x.layers(400, both - 400);
            gets("both LAYERS are " + both, x, 0, 400, Math.min(both, 1000) - 400);
            Slickboom y = claims(600, 400);
            y.layers(0, both);
            gets("of two, both LAYERS are " + both, y, 0, 0, both < 1000 ? 599 : 600);
            gets("of two, both LAYERS are " + both, y, 1, 0, both < 1000 ? 399 : 400);
        }
        Twins.same("29: asking changes nothing", Bays::busy, y -> y.due(1, 0));
    }

    /** Promise 29: "or nothing, if that is 0" */
    private static void dueOfNothing() {
        Slickboom x = claims(1000, 1);
        gets("no LAYERS were told", x, 0, 0, 0);
        x.layers(0, 0);
        gets("both LAYERS are 0", x, 1, 0, 0);
        x.layers(0, 1);
        gets("the fund has one cent", x, 0, 0, 0);
        x.layers(1, 0);
        gets("the owner has one cent", x, 1, 0, 0);
        Slickboom y = claims(1);
        y.layers(1, 0);
        gets("one cent of the owner", y, 0, 1, 0);
        y.layers(0, 1);
        gets("one cent of the fund", y, 0, 0, 1);
    }

    /** Promise 29: "A CLAIM gets its cents times that, by all CLAIMS together.", "What is divided is rounded down" */
    private static void dueByAllClaims() {
        Slickboom x = claims(600, 300, 101);
        x.layers(0, 700);
        // 700 of 1001
        gets("419.58", x, 0, 0, 419);
        gets("209.79", x, 1, 0, 209);
        gets("70.62", x, 2, 0, 70);
        x.claim(399);
        gets("300, of one more", x, 0, 0, 300);
        gets("50.5, of one more", x, 2, 0, 50);
        gets("199.5, the one more", x, 3, 0, 199);
    }

    /**
     * Promise 29: "Of what it gets the owner pays that times the lesser one of the owner's LAYER and what all get, by
     * what all get", "what: 0 from the owner"
     */
    private static void dueFromTheOwner() {
        Slickboom x = claims(600, 300, 101);
        x.layers(500, 200);
        // of 419, 209 and 70 so 500 of 700
        gets("299.28", x, 0, 299, 120);
        gets("149.28", x, 1, 149, 60);
        gets("50", x, 2, 50, 20);
        // the owner's LAYER is one cent less than what all get, the same, one cent more
        for (int owner = 1000; owner <= 1002; owner++) {
            x.layers(owner, 10);
            gets("the owner's LAYER is " + owner, x, 0, owner == 1000 ? 599 : 600, owner == 1000 ? 1 : 0);
        }
        x.layers(1001, 0);
        gets("the owner's is all", x, 2, 101, 0);
        x.layers(700, 0);
        gets("the owner's is all that there is", x, 0, 419, 0);
    }

    /** Promise 29: "the fund pays the rest.", "1 from the fund" */
    private static void dueFromTheFund() {
        int[][] layers = {{0, 5000}, {1, 1000}, {333, 333}, {500, 501}, {500, 500}, {999, 1}, {5000, 5000}};
        for (int[] both : layers) {
            Slickboom x = claims(600, 300, 101);
            x.layers(both[0], both[1]);
            long all = Math.min(both[0] + both[1], 1001);
            int[] cents = {600, 300, 101};
            for (int claim = 0; claim < 3; claim++) {
                long gets = cents[claim] * all / 1001;
                long owner = gets * Math.min(both[0], all) / all;
                gets("the owner's " + both[0] + ", the fund's " + both[1], x, claim, (int) owner, (int) (gets - owner));
            }
        }
    }

    /** Promise 27: "cents: 1 to 1000000" Promise 28: "owner: 0 to 10000000" */
    private static void dueOfTheMost() {
        Slickboom x = new Slickboom();
        for (int i = 0; i < 20; i++) {
            x.claim(1000000);
        }
        x.layers(10000000, 9999999);
        // 1000000 times 19999999 by 20000000, of that 10000000 by 19999999
        gets("one cent less than all", x, 0, 499999, 500000);
        x.layers(10000000, 10000000);
        gets("all", x, 19, 500000, 500000);
        x.layers(10000000, 0);
        gets("the owner's alone", x, 7, 500000, 0);
    }

    /** Promise 29: "claim: a CLAIM", "Throws IndexOutOfBoundsException if there is no such CLAIM" */
    private static void dueOfAClaim() {
        Slickboom x = Bays.full();
        // 1000 of 2190
        Check.is("29: the first", x.due(0, 0) + x.due(0, 1), 45);
        Check.is("29: the last", x.due(19, 0) + x.due(19, 1), 54);
        for (int i = 0; i <= 1; i++) {
            int what = i;
            Refused.numbers("29: CLAIM of 20,", 20, Bays::full, (y, claim) -> y.due(claim, what));
            Refused.numbers("29: CLAIM of 2,", 2, Bays::busy, (y, claim) -> y.due(claim, what));
            Refused.numbers("29: CLAIM of none,", 0, Slickboom::new, (y, claim) -> y.due(claim, what));
        }
    }

    /**
     * Promise 29: "what: 0 from the owner; 1 from the fund", "Throws IllegalArgumentException if what is out of
     * range"
     */
    private static void dueInRange() {
        Slickboom x = Bays.busy();
        // 500 of 801, of that 400 of 500
        gets("312", x, 0, 249, 63);
        Refused.ranges("29: what", 0, 1, Bays::busy, (y, what) -> y.due(0, what));
        Refused.ranges("29: what of the last", 0, 1, Bays::busy, (y, what) -> y.due(1, what));
    }
}
