import java.util.List;
import java.util.function.Consumer;
import java.util.function.Supplier;

/**
 * For each call each pair of exceptions that can apply at once, and what is answered then. Pairs that
 * are not here cannot apply at once: what is no CELL is no SHORE either, and what is no mean of no sort.
 */
public final class PairsTest {
    private static final int MIN = Integer.MIN_VALUE;
    private static final int MAX = Integer.MAX_VALUE;

    public static void main(String[] args) {
        refusedOneAfterTheOther();
        shore();
        depth();
        ship();
        hole();
        pump();
        pass();
        at();
        boom();
        skimmer();
        team();
        move();
        clean();
        meanIs();
        use();
        why();
        birds();
        wash();
        sign();
        site();
        deliver();
        claim();
        due();
        ahead();
        Check.end();
    }

    private static Supplier<Slickboom> made(Consumer<Slickboom> told) {
        return () -> {
            Slickboom x = new Slickboom();
            told.accept(x);
            return x;
        };
    }

    /** Promise 9: "A call of a method that throws an exception changes nothing" */
    private static void refusedOneAfterTheOther() {
        List<Consumer<Slickboom>> calls = List.of(
                x -> x.shore(24, 1), x -> x.shore(0, 4), x -> x.shore(0, 1),
                x -> x.depth(24, 5), x -> x.depth(0, 0), x -> x.depth(8, 5),
                x -> x.wind(4, 5), x -> x.wind(0, 10),
                x -> x.ship(24, 5), x -> x.ship(0, -1), x -> x.ship(8, 5),
                x -> x.hole(3, 5), x -> x.hole(0, 100),
                x -> x.pump(0, 3, 5), x -> x.pump(0, 0, 5), x -> x.pump(0, 1, 0), x -> x.pump(0, 1, 99999),
                x -> x.shipHas(3), x -> x.pass(0), x -> x.pass(49), x -> x.at(24, 0), x -> x.at(0, 9),
                x -> x.boom(24, 0, 5), x -> x.boom(0, 4, 5), x -> x.boom(0, 0, 10), x -> x.boom(7, 2, 5),
                x -> x.skimmer(24, 5, 5), x -> x.skimmer(0, 501, 5), x -> x.skimmer(0, 5, 0), x -> x.skimmer(8, 5, 5),
                x -> x.team(0, true), x -> x.move(8, 0), x -> x.move(3, 24), x -> x.move(0, 0), x -> x.move(3, 8),
                x -> x.carry(8), x -> x.carry(0), x -> x.teach(8), x -> x.teach(3),
                x -> x.clean(8, 8), x -> x.clean(7, 24), x -> x.clean(3, 8), x -> x.clean(7, 7), x -> x.clean(6, 8),
                x -> x.meanIs(8, 0), x -> x.meanIs(0, 4),
                x -> x.use(24, 0), x -> x.use(18, 2), x -> x.use(8, 0), x -> x.use(7, 1),
                x -> x.why(24, 0, 0), x -> x.why(0, 2, 0), x -> x.why(0, 0, 3), x -> x.why(8, 0, 0),
                x -> x.birds(24, 5), x -> x.birds(8, 101), x -> x.birds(7, 5),
                x -> x.wash(24, 5), x -> x.wash(8, 101), x -> x.wash(7, 5),
                x -> x.sign(24, 0), x -> x.sign(5, 3), x -> x.sign(7, 0), x -> x.sign(15, 0), x -> x.sign(5, 1),
                x -> x.site(-1, 5), x -> x.site(5, 100001),
                x -> x.deliver(2, 0, 1), x -> x.deliver(0, 2, 1), x -> x.deliver(0, 0, 0), x -> x.deliver(0, 0, 50000),
                x -> x.waste(2), x -> x.claim(0), x -> x.layers(-1, 5), x -> x.layers(5, 10000001),
                x -> x.due(2, 0), x -> x.due(0, 2), x -> x.ahead(24, 5), x -> x.ahead(0, 0), x -> x.nextAnew(24),
                x -> x.sum(12));
        Twins.same("all that is refused changes nothing", Bays::busy, x -> {
            for (Consumer<Slickboom> call : calls) {
                Check.is("it is refused", isRefused(x, call), true);
            }
        });
    }

    private static boolean isRefused(Slickboom x, Consumer<Slickboom> call) {
        try {
            call.accept(x);
            return false;
        } catch (IndexOutOfBoundsException | IllegalArgumentException | IllegalStateException e) {
            return true;
        }
    }

    /** Promise 2: "if several exceptions apply, the one that its @throws lines name first is thrown." */
    private static void shore() {
        Supplier<Slickboom> withShip = made(x -> x.ship(3, 0));
        Supplier<Slickboom> withSkimmer = made(x -> x.skimmer(3, 1, 1));
        for (int cell : new int[] {MIN, -1, 24, MAX}) {
            Refused.number("2: no CELL, no kind", Slickboom::new, x -> x.shore(cell, 4));
            Refused.number("2: no CELL, no kind", Slickboom::new, x -> x.shore(cell, -1));
            Refused.number("2: no CELL, the HOUR 5", Bays::busy, x -> x.shore(cell, 1));
            Refused.number("2: no CELL, no kind, the HOUR 5", Bays::busy, x -> x.shore(cell, 4));
        }
        for (int kind : new int[] {MIN, -1, 4, MAX}) {
            Refused.range("2: no kind, the HOUR 5", Bays::busy, x -> x.shore(0, kind));
            Refused.range("2: no kind, a SHIP", withShip, x -> x.shore(3, kind));
            Refused.range("2: no kind, a SKIMMER", withSkimmer, x -> x.shore(3, kind));
            Refused.range("2: no kind, a SHIP, the HOUR 5", Bays::busy, x -> x.shore(7, kind));
        }
    }

    /** Promise 3: "if several exceptions apply, the one that its @throws lines name first is thrown." */
    private static void depth() {
        Refused.number("3: no CELL, no depth", Bays::busy, x -> x.depth(24, 0));
        Refused.number("3: no CELL, no depth", Bays::busy, x -> x.depth(-1, 100));
        Refused.range("3: no depth, a SHORE", Bays::busy, x -> x.depth(8, 0));
        Refused.range("3: no depth, a SHORE", Bays::busy, x -> x.depth(8, 100));
    }

    /** Promise 5: "if several exceptions apply, the one that its @throws lines name first is thrown." */
    private static void ship() {
        Refused.number("5: no CELL, too few litres", Bays::busy, x -> x.ship(24, -1));
        Refused.number("5: no CELL, too many litres", Bays::busy, x -> x.ship(-1, 100001));
        Refused.number("5: no CELL, there are 4", Bays::full, x -> x.ship(24, 5));
        Refused.number("5: no CELL, too many litres, there are 4", Bays::full, x -> x.ship(-1, MAX));
        Refused.range("5: too few litres, a SHORE", Bays::busy, x -> x.ship(8, -1));
        Refused.range("5: too many litres, a SHORE", Bays::busy, x -> x.ship(8, 100001));
        Refused.range("5: too many litres, there are 4", Bays::full, x -> x.ship(0, 100001));
        Refused.range("5: too many litres, a SHORE, there are 4", Bays::full, x -> x.ship(23, 100001));
        Refused.state("5: a SHORE, there are 4", Bays::full, x -> x.ship(23, 5));
    }

    /** Promise 6: "if several exceptions apply, the one that its @throws lines name first is thrown." */
    private static void hole() {
        Refused.number("6: no SHIP, no rate", Bays::busy, x -> x.hole(3, 100));
        Refused.number("6: no SHIP, no rate", Bays::busy, x -> x.hole(-1, -1));
        Refused.number("6: no SHIP at all, no rate", Slickboom::new, x -> x.hole(0, 100));
    }

    /** Promise 7: "if several exceptions apply, the one that its @throws lines name first is thrown." */
    private static void pump() {
        Supplier<Slickboom> ships = made(x -> {
            x.ship(0, 10);
            x.ship(1, 100000);
        });
        Refused.number("7: no SHIP, the same", ships, x -> x.pump(2, 2, 1));
        Refused.number("7: no SHIP, the same", ships, x -> x.pump(-1, -1, 1));
        Refused.number("7: no SHIP, too few litres", ships, x -> x.pump(2, 0, 0));
        Refused.number("7: no SHIP, too many litres", ships, x -> x.pump(2, 0, 100001));
        Refused.number("7: no other one, too few litres", ships, x -> x.pump(0, 2, 0));
        Refused.number("7: no other one, too many litres", ships, x -> x.pump(0, -1, 100001));
        Refused.number("7: no other one, it has fewer", ships, x -> x.pump(0, 2, 11));
        Refused.number("7: no SHIP, the other one would have more", ships, x -> x.pump(2, 1, 5));
        Refused.number("7: no SHIP, the same, too few litres", ships, x -> x.pump(2, 2, 0));
        Refused.range("7: the same, it has fewer", ships, x -> x.pump(0, 0, 11));
        Refused.range("7: the same, it would have more", ships, x -> x.pump(1, 1, 5));
        Refused.range("7: the same, too few litres", ships, x -> x.pump(1, 1, 0));
        Refused.range("7: too many litres, it has fewer", ships, x -> x.pump(1, 0, 100001));
        Refused.range("7: too many litres, the other one would have more", ships, x -> x.pump(0, 1, 100001));
        Refused.range("7: far too many litres", ships, x -> x.pump(0, 1, MAX));
        Refused.range("7: far too few litres", ships, x -> x.pump(0, 1, MIN));
        Refused.state("7: it has fewer, the other one would have more", ships, x -> x.pump(0, 1, 11));
    }

    /** Promise 9: "if several exceptions apply, the one that its @throws lines name first is thrown." */
    private static void pass() {
        Refused.range("9: too many HOURS, above 2000", Bays::late, x -> x.pass(49));
        Refused.range("9: far too many HOURS", Bays::late, x -> x.pass(MAX));
        Refused.range("9: far too many HOURS", Slickboom::new, x -> x.pass(2001));
        Refused.range("9: too few HOURS at 2000", Bays::late, x -> x.pass(0));
    }

    /** Promise 10: "if several exceptions apply, the one that its @throws lines name first is thrown." */
    private static void at() {
        Refused.number("10: no CELL, nothing", Bays::busy, x -> x.at(24, 9));
        Refused.number("10: no CELL, nothing", Bays::busy, x -> x.at(-1, -1));
    }

    /** Promise 11: "if several exceptions apply, the one that its @throws lines name first is thrown." */
    private static void boom() {
        Refused.number("11: no CELL, no way", Bays::busy, x -> x.boom(24, 4, 5));
        Refused.number("11: no CELL, no strength", Bays::busy, x -> x.boom(-1, 0, 0));
        Refused.number("11: no CELL, there are 20", Bays::full, x -> x.boom(24, 0, 5));
        Refused.number("11: no CELL, no way, no strength, there are 20", Bays::full, x -> x.boom(-1, -1, 10));
        Refused.range("11: no way, there are 20", Bays::full, x -> x.boom(0, 4, 5));
        Refused.range("11: no strength, there are 20", Bays::full, x -> x.boom(0, 0, 10));
        Refused.range("11: no strength, there is one", Bays::busy, x -> x.boom(7, Slickboom.SOUTH, 0));
        Refused.range("11: no strength, there is one, told elsewhere", Bays::busy, x -> x.boom(13, Slickboom.NORTH, 10));
        Refused.range("11: no strength, there is one, there are 20", Bays::full, x -> x.boom(3, Slickboom.EAST, 0));
        Refused.state("11: there is one, there are 20", Bays::full, x -> x.boom(3, Slickboom.EAST, 5));
    }

    /** Promise 12: "if several exceptions apply, the one that its @throws lines name first is thrown." */
    private static void skimmer() {
        Refused.number("12: no CELL, no rate", Bays::busy, x -> x.skimmer(24, 0, 5));
        Refused.number("12: no CELL, no store", Bays::busy, x -> x.skimmer(-1, 5, 5001));
        Refused.number("12: no CELL, there are 20", Bays::full, x -> x.skimmer(24, 5, 5));
        Refused.number("12: no CELL, no rate, no store, there are 20", Bays::full, x -> x.skimmer(-1, 501, 0));
        Refused.range("12: no rate, a SHORE", Bays::busy, x -> x.skimmer(8, 501, 5));
        Refused.range("12: no store, a SHORE", Bays::busy, x -> x.skimmer(8, 5, 0));
        Refused.range("12: no rate, there are 20", Bays::full, x -> x.skimmer(0, 0, 5));
        Refused.range("12: no store, there are 20", Bays::full, x -> x.skimmer(0, 5, 5001));
        Refused.range("12: no rate, a SHORE, there are 20", Bays::full, x -> x.skimmer(23, 0, 5));
        Refused.state("12: a SHORE, there are 20", Bays::full, x -> x.skimmer(23, 5, 5));
    }

    /** Promise 13: "if several exceptions apply, the one that its @throws lines name first is thrown." */
    private static void team() {
        Refused.range("13: too few people, there are 20", Bays::full, x -> x.team(0, true));
        Refused.range("13: too many people, there are 20", Bays::full, x -> x.team(51, false));
    }

    /** Promise 14: "if several exceptions apply, the one that its @throws lines name first is thrown." */
    private static void move() {
        Refused.number("14: no mean, a SHORE", Bays::busy, x -> x.move(8, 8));
        Refused.number("14: no mean, no CELL", Bays::busy, x -> x.move(-1, 24));
        Refused.number("14: a BOOM, no CELL", Bays::busy, x -> x.move(0, 24));
        Refused.number("14: a TEAM, no CELL", Bays::busy, x -> x.move(5, -1));
        Refused.number("14: a SKIMMER, no CELL", Bays::busy, x -> x.move(3, 24));
        Refused.state("14: a TEAM, a SHORE", Bays::busy, x -> x.move(5, 8));
    }

    /** Promise 17: "if several exceptions apply, the one that its @throws lines name first is thrown." */
    private static void clean() {
        Refused.number("17: no mean, WATER", Bays::busy, x -> x.clean(8, 7));
        Refused.number("17: no mean, no CELL", Bays::busy, x -> x.clean(-1, 24));
        Refused.number("17: a BOOM, no CELL", Bays::busy, x -> x.clean(0, 24));
        Refused.number("17: a SKIMMER, no CELL", Bays::busy, x -> x.clean(3, -1));
        Refused.number("17: a TEAM that is not taught, no CELL", Bays::busy, x -> x.clean(6, 24));
        Refused.state("17: a BOOM, WATER", Bays::busy, x -> x.clean(0, 7));
        Refused.state("17: a TEAM that is not taught, WATER", Bays::busy, x -> x.clean(6, 7));
    }

    /** Promise 18: "if several exceptions apply, the one that its @throws lines name first is thrown." */
    private static void meanIs() {
        Refused.number("18: no mean, nothing", Bays::busy, x -> x.meanIs(8, 4));
        Refused.number("18: no mean, nothing", Bays::busy, x -> x.meanIs(-1, -1));
        Refused.number("18: no mean at all, nothing", Slickboom::new, x -> x.meanIs(0, 4));
    }

    /** Promise 19: "if several exceptions apply, the one that its @throws lines name first is thrown." */
    private static void use() {
        Refused.number("19: no CELL, no use", Bays::busy, x -> x.use(24, 2));
        Refused.number("19: no CELL, no use", Bays::busy, x -> x.use(-1, -1));
        Refused.range("19: no use, a SHORE", Bays::busy, x -> x.use(8, 2));
        Refused.range("19: no use, a SHORE", Bays::busy, x -> x.use(8, -1));
        Refused.range("19: no use, rules are against both", Slickboom::new, x -> x.use(8, 2));
    }

    /** Promise 20: "if several exceptions apply, the one that its @throws lines name first is thrown." */
    private static void why() {
        Refused.number("20: no CELL, no use", Bays::busy, x -> x.why(24, 2, 0));
        Refused.number("20: no CELL, nothing", Bays::busy, x -> x.why(-1, 0, 3));
        Refused.number("20: no CELL, no use, nothing", Bays::busy, x -> x.why(24, -1, -1));
        Refused.range("20: no use, a SHORE", Bays::busy, x -> x.why(8, 2, 0));
        Refused.range("20: nothing, a SHORE", Bays::busy, x -> x.why(8, 0, 3));
        Refused.range("20: no use, nothing, a SHORE", Bays::busy, x -> x.why(8, -1, -1));
    }

    private static Slickboom with1000Birds() {
        Slickboom x = new Slickboom();
        x.shore(8, Slickboom.ROCK);
        for (int i = 0; i < 10; i++) {
            x.birds(8, 100);
        }
        return x;
    }

    /** Promise 21: "if several exceptions apply, the one that its @throws lines name first is thrown." */
    private static void birds() {
        Refused.number("21: no CELL, too few", Bays::busy, x -> x.birds(24, 0));
        Refused.number("21: no CELL, too many", Bays::busy, x -> x.birds(-1, 101));
        Refused.range("21: too few, WATER", Bays::busy, x -> x.birds(7, 0));
        Refused.range("21: too many, WATER", Bays::busy, x -> x.birds(7, 101));
        Refused.range("21: too many, there would be more than 1000", PairsTest::with1000Birds, x -> x.birds(8, 101));
        Refused.range("21: far too many", PairsTest::with1000Birds, x -> x.birds(8, MAX));
        Refused.range("21: too few, there are 1000", PairsTest::with1000Birds, x -> x.birds(8, 0));
    }

    /** Promise 22: "if several exceptions apply, the one that its @throws lines name first is thrown." */
    private static void wash() {
        Refused.number("22: no CELL, too few", Bays::busy, x -> x.wash(24, 0));
        Refused.number("22: no CELL, too many", Bays::busy, x -> x.wash(-1, 101));
        Refused.range("22: too few, WATER", Bays::busy, x -> x.wash(7, 0));
        Refused.range("22: too many, WATER", Bays::busy, x -> x.wash(7, 101));
    }

    /** Promise 23: "if several exceptions apply, the one that its @throws lines name first is thrown." */
    private static void sign() {
        Refused.number("23: no CELL, nobody", Bays::busy, x -> x.sign(24, 3));
        Refused.number("23: no CELL, nobody", Bays::busy, x -> x.sign(-1, -1));
        Refused.range("23: nobody, WATER", Bays::busy, x -> x.sign(7, 3));
        Refused.range("23: nobody, too much STRANDED oil", Bays::busy, x -> x.sign(15, 3));
        Refused.range("23: nobody, signed by others", Bays::busy, x -> x.sign(5, -1));
        Refused.state("23: too much STRANDED oil, a SHORE that was signed", () -> Bays.blown(Slickboom.ROCK, 200,
                x -> x.sign(8, 1)), x -> x.sign(8, 1));
    }

    /** Promise 24: "if several exceptions apply, the one that its @throws lines name first is thrown." */
    private static void site() {
        Refused.range("24: too little LIQUID, there are 3", Bays::full, x -> x.site(-1, 5));
        Refused.range("24: too much LIQUID, there are 3", Bays::full, x -> x.site(100001, 5));
        Refused.range("24: too little SOLID, there are 3", Bays::full, x -> x.site(5, -1));
        Refused.range("24: too much SOLID, there are 3", Bays::full, x -> x.site(5, 100001));
    }

    /** Promise 25: "if several exceptions apply, the one that its @throws lines name first is thrown." */
    private static void deliver() {
        Refused.number("25: no SITE, no sort", Bays::busy, x -> x.deliver(2, 2, 5));
        Refused.number("25: no SITE, too few litres", Bays::busy, x -> x.deliver(-1, 0, 0));
        Refused.number("25: no SITE, too many litres", Bays::busy, x -> x.deliver(2, 1, 100001));
        Refused.number("25: no SITE, less waste", Bays::busy, x -> x.deliver(2, 0, 50000));
        Refused.number("25: no SITE at all, no waste", Slickboom::new, x -> x.deliver(0, 0, 1));
        Refused.number("25: no SITE, no sort, too many litres", Bays::busy, x -> x.deliver(-1, -1, MAX));
        Refused.range("25: no sort, too much", Bays::busy, x -> x.deliver(0, 2, 50000));
        Refused.range("25: too many litres, less waste, less room", Bays::busy, x -> x.deliver(0, 0, 100001));
        Refused.range("25: too few litres, no room", Bays::busy, x -> x.deliver(1, 0, 0));
        Refused.range("25: no sort, too many litres", Bays::busy, x -> x.deliver(0, -1, 100001));
        Refused.state("25: less waste, less room", Bays::busy, x -> x.deliver(0, 0, 100000));
    }

    /** Promise 27: "if several exceptions apply, the one that its @throws lines name first is thrown." */
    private static void claim() {
        Refused.range("27: too few cents, there are 20", Bays::full, x -> x.claim(0));
        Refused.range("27: too many cents, there are 20", Bays::full, x -> x.claim(1000001));
    }

    /** Promise 29: "if several exceptions apply, the one that its @throws lines name first is thrown." */
    private static void due() {
        Refused.number("29: no CLAIM, nothing", Bays::busy, x -> x.due(2, 2));
        Refused.number("29: no CLAIM, nothing", Bays::busy, x -> x.due(-1, -1));
        Refused.number("29: no CLAIM at all, nothing", Slickboom::new, x -> x.due(0, 2));
    }

    /** Promise 30: "if several exceptions apply, the one that its @throws lines name first is thrown." */
    private static void ahead() {
        Refused.number("30: no CELL, too few HOURS", Bays::busy, x -> x.ahead(24, 0));
        Refused.number("30: no CELL, too many HOURS", Bays::busy, x -> x.ahead(-1, 49));
    }
}
