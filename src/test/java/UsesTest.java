import java.util.function.Supplier;

/** Promises 19 and 20: DISPERSING, BURNING, and the rules against them. */
public final class UsesTest {
    private static final int DISPERSING = Slickboom.DISPERSING;
    private static final int BURNING = Slickboom.BURNING;

    public static void main(String[] args) {
        disperses();
        burns();
        burnsNineTenths();
        useOfACell();
        useInRange();
        useOnAShore();
        useAgainstARule();
        whyByNumbers();
        whyWithoutAny();
        whyAllOfThem();
        whyOfACell();
        whyInRange();
        whyOnAShore();
        depthBelow10();
        leakMoreThan72HoursAgo();
        leakMoreThan24HoursAgo();
        noLeakWas();
        leakOfALitre();
        leakOfThisHour();
        firstLeakOfAll();
        moreThickThanFresh();
        windBelow2();
        windAbove5();
        marshBeside();
        fewerThan100();
        shoreBeside();
        Check.end();
    }

    /** 300 FRESH and 33 THICK in the CELL 14, and a WIND by which no rule is against either use. */
    private static Slickboom ready() {
        Slickboom x = Bays.floating(14, 350);
        x.wind(Slickboom.EAST, 3);
        return x;
    }

    private static void against(String what, Slickboom x, int cell, int use, int... rules) {
        int many = rules.length;
        Check.is("20: " + what + ", the first", x.why(cell, use, 0), many == 0 ? 0 : rules[0]);
        Check.is("20: " + what + ", the last", x.why(cell, use, 1), many == 0 ? 0 : rules[many - 1]);
        Check.is("20: " + what + ", how many", x.why(cell, use, 2), many);
    }

    // ---- use

    /**
     * Promise 19: "Disperses or burns.", "Returns how many litres become DEEP, or BURNT.", "DISPERSING makes all
     * FRESH oil of a CELL DEEP"
     */
    private static void disperses() {
        Slickboom x = ready();
        Check.is("19: all FRESH oil", x.use(14, DISPERSING), 300);
        Check.is("19: none is left", x.at(14, 0), 0);
        Check.is("19: the THICK oil stays", x.at(14, 1), 33);
        Check.is("19: DEEP", x.sum(9), 300);
        Check.is("19: none is BURNT", x.sum(10), 0);
        Check.is("19: without oil", x.use(20, DISPERSING), 0);
        Check.is("19: DEEP still", x.sum(9), 300);
        Slickboom one = new Slickboom();
        one.hole(one.ship(3, 2000), 1);
        one.wind(Slickboom.EAST, 2);
        one.pass(1);
        Check.is("19: one litre", one.use(3, DISPERSING), 1);
        Check.is("19: of that CELL alone", twoCells().use(14, DISPERSING), 300);
    }

    private static Slickboom twoCells() {
        Slickboom x = new Slickboom();
        Bays.leak(x, 14, 350);
        x.hole(x.ship(15, 8000), 50);
        x.pass(1);
        x.wind(Slickboom.EAST, 3);
        return x;
    }

    /** Promise 19: "Disperses or burns.", "BURNING makes nine tenths of it BURNT." */
    private static void burns() {
        Slickboom x = twoCells();
        Check.is("19: nine tenths", x.use(14, BURNING), 270);
        Check.is("19: a tenth is left", x.at(14, 0), 30);
        Check.is("19: the THICK oil stays", x.at(14, 1), 33);
        Check.is("19: BURNT", x.sum(10), 270);
        Check.is("19: none is DEEP", x.sum(9), 0);
        Check.is("19: another CELL", x.at(15, 0), 300);
        Check.is("19: another CELL then", x.use(15, BURNING), 270);
        Check.is("19: BURNT, together", x.sum(10), 540);
    }

    /** Promise 19: "nine tenths of it BURNT.", "What is divided is rounded down" */
    private static void burnsNineTenths() {
        for (int leaked = 116; leaked <= 136; leaked++) {
            Slickboom x = Bays.floating(14, leaked);
            int fresh = Bays.freshOf(leaked);
            Check.is("19: nine tenths of " + fresh, x.use(14, BURNING), 9 * fresh / 10);
            Check.is("19: the rest of " + fresh, x.at(14, 0), fresh - 9 * fresh / 10);
        }
    }

    /** Promise 19: "cell: 0 to 23", "Throws IndexOutOfBoundsException if there is no such CELL" */
    private static void useOfACell() {
        for (int cell = 0; cell < 24; cell += 23) {
            Slickboom x = Bays.floating(cell, 350);
            Check.is("19: BURNING in " + cell, x.use(cell, BURNING), 270);
            x.wind(Slickboom.EAST, 2);
            Check.is("19: THICK oil is more now", x.why(cell, DISPERSING, 0), 3);
            Slickboom y = Bays.floating(cell, 350);
            y.wind(Slickboom.EAST, 2);
            Check.is("19: DISPERSING in " + cell, y.use(cell, DISPERSING), 300);
        }
        Refused.numbers("19: DISPERSING in the cell", 24, UsesTest::ready, (y, cell) -> y.use(cell, DISPERSING));
        Refused.numbers("19: BURNING in the cell", 24, UsesTest::ready, (y, cell) -> y.use(cell, BURNING));
    }

    /** Promise 19: "use: DISPERSING or BURNING", "Throws IllegalArgumentException if use is out of range" */
    private static void useInRange() {
        Check.is("19: the first use", ready().use(14, DISPERSING), 300);
        Check.is("19: the last use", ready().use(14, BURNING), 270);
        Refused.ranges("19: use", DISPERSING, BURNING, UsesTest::ready, (y, use) -> y.use(14, use));
    }

    /** Promise 19: "Throws IllegalStateException if it is a SHORE" */
    private static void useOnAShore() {
        for (int cell : new int[] {5, 8, 15, 22}) {
            Refused.state("19: DISPERSING on the SHORE " + cell, Bays::busy, x -> x.use(cell, DISPERSING));
            Refused.state("19: BURNING on the SHORE " + cell, Bays::busy, x -> x.use(cell, BURNING));
        }
    }

    /** Promise 19: "or a rule is against it" */
    private static void useAgainstARule() {
        for (int rule = 1; rule <= 5; rule++) {
            int number = rule;
            against("DISPERSING by " + rule, oneAgainst(rule, DISPERSING), 14, DISPERSING, rule);
            Refused.state("19: DISPERSING, against it is " + rule, () -> oneAgainst(number, DISPERSING),
                    x -> x.use(14, DISPERSING));
            against("BURNING by " + rule, oneAgainst(rule, BURNING), 14, BURNING, rule);
            Refused.state("19: BURNING, against it is " + rule, () -> oneAgainst(number, BURNING),
                    x -> x.use(14, BURNING));
        }
    }

    /** One rule alone is against a use in the CELL 14. */
    private static Slickboom oneAgainst(int rule, int use) {
        Slickboom x = ready();
        switch (rule) {
            case 1:
                if (use == BURNING) {
                    return Bays.floating(14, 115);
                }
                x.depth(14, 9);
                return x;
            case 2:
                return leakedAgain(use == DISPERSING ? 73 : 25);
            case 3:
                return muchThick(325);
            case 4:
                x.wind(Slickboom.EAST, use == DISPERSING ? 1 : 6);
                return x;
            default:
                Slickboom y = new Slickboom();
                y.shore(20, Slickboom.MARSH);
                Bays.leak(y, 14, 350);
                y.pass(1);
                y.wind(Slickboom.EAST, 3);
                return y;
        }
    }

    /** One litre leaked into the CELL 0, and so many HOURS later much more of another SHIP into 14. */
    private static Slickboom leakedAgain(int later) {
        Slickboom x = new Slickboom();
        x.hole(x.ship(0, 2000), 1);
        x.pass(1);
        x.hole(0, 0);
        for (int left = later - 1; left > 0; left -= 48) {
            x.pass(Math.min(left, 48));
        }
        x.hole(x.ship(14, 100000), 50);
        x.pass(1);
        x.wind(Slickboom.EAST, 3);
        return x;
    }

    /** In the CELL 14 326 THICK litres, and as many FRESH ones as told, up to 493. */
    private static Slickboom muchThick(int fresh) {
        Slickboom x = new Slickboom();
        Bays.leak(x, 14, 3500);
        for (int i = 0; i < 5; i++) {
            x.skimmer(14, 500, 500);
        }
        x.skimmer(14, 493 - fresh, 493 - fresh);
        x.pass(1);
        Check.is("20: FRESH", x.at(14, 0), fresh);
        Check.is("20: THICK", x.at(14, 1), 326);
        x.wind(Slickboom.EAST, 3);
        return x;
    }

    // ---- why

    /**
     * Promise 20: "Returns what is against it now.", "what: 0 the first rule; 1 the last one; 2 how many are against
     * it"
     */
    private static void whyByNumbers() {
        Slickboom x = ready();
        x.depth(14, 5);
        against("the depth", x, 14, DISPERSING, 1);
        x.wind(Slickboom.EAST, 0);
        against("the depth and the WIND", x, 14, DISPERSING, 1, 4);
        x.depth(14, 50);
        against("the WIND", x, 14, DISPERSING, 4);
        x.wind(Slickboom.EAST, 9);
        against("the WIND", x, 14, BURNING, 4);
        x.wind(Slickboom.EAST, 5);
        x.use(14, BURNING);
        against("30 FRESH, 33 THICK", x, 14, BURNING, 1, 3);
        against("30 FRESH, 33 THICK", x, 14, DISPERSING, 3);
        x.wind(Slickboom.EAST, 9);
        against("30 FRESH, 33 THICK, and the WIND", x, 14, BURNING, 1, 3, 4);
        Twins.same("20: asking changes nothing", Bays::busy, y -> y.why(7, DISPERSING, 2));
    }

    /** Promise 20: "Returns the number; 0 without any." */
    private static void whyWithoutAny() {
        against("none", ready(), 14, DISPERSING);
        against("none", ready(), 14, BURNING);
    }

    /** Promise 20: "2 how many are against it", "These are the rules against it, by numbers:" */
    private static void whyAllOfThem() {
        Slickboom x = new Slickboom();
        x.shore(15, Slickboom.MARSH);
        x.depth(14, 1);
        Bays.leak(x, 14, 350);
        x.pass(1);
        Bays.stop(x);
        x.pass(30);
        x.wind(Slickboom.EAST, 6);
        Check.is("20: THICK oil is left", x.at(14, 1) > x.at(14, 0), true);
        against("all of BURNING", x, 14, BURNING, 1, 2, 3, 4, 5);
        against("three of DISPERSING", x, 14, DISPERSING, 1, 3, 5);
        x.wind(Slickboom.EAST, 0);
        x.pass(48);
        against("all of DISPERSING", x, 14, DISPERSING, 1, 2, 3, 4, 5);
    }

    /** Promise 20: "cell: 0 to 23", "Throws IndexOutOfBoundsException if there is no such CELL" */
    private static void whyOfACell() {
        Slickboom x = ready();
        x.depth(0, 9);
        x.depth(23, 9);
        against("the first CELL", x, 0, DISPERSING, 1);
        against("the last CELL", x, 23, DISPERSING, 1);
        Refused.numbers("20: cell", 24, Bays::busy, (y, cell) -> y.why(cell, DISPERSING, 0));
        Refused.numbers("20: cell", 24, Bays::busy, (y, cell) -> y.why(cell, BURNING, 2));
    }

    /** Promise 20: "use: DISPERSING or BURNING", "Throws IllegalArgumentException if use or what is out of range" */
    private static void whyInRange() {
        for (int i = 0; i <= 2; i++) {
            int what = i;
            Refused.ranges("20: use", DISPERSING, BURNING, Bays::busy, (y, use) -> y.why(14, use, what));
        }
        Refused.ranges("20: what of DISPERSING", 0, 2, Bays::busy, (y, what) -> y.why(14, DISPERSING, what));
        Refused.ranges("20: what of BURNING", 0, 2, Bays::busy, (y, what) -> y.why(14, BURNING, what));
    }

    /** Promise 20: "Throws IllegalStateException if it is a SHORE" */
    private static void whyOnAShore() {
        for (int cell : new int[] {5, 8, 15, 22}) {
            Refused.state("20: DISPERSING on the SHORE " + cell, Bays::busy, x -> x.why(cell, DISPERSING, 0));
            Refused.state("20: BURNING on the SHORE " + cell, Bays::busy, x -> x.why(cell, BURNING, 2));
        }
    }

    // ---- the rules

    /** Promise 20: "by DISPERSING 1: the depth is below 10" */
    private static void depthBelow10() {
        for (int depth : new int[] {1, 9, 10, 11, 99}) {
            Slickboom x = ready();
            x.depth(14, depth);
            against("the depth " + depth, x, 14, DISPERSING, depth < 10 ? new int[] {1} : new int[0]);
            against("the depth " + depth + " is no matter", x, 14, BURNING);
            Check.is("20: beside it", x.why(13, DISPERSING, 2), 0);
        }
    }

    /** Of a leak at an HOUR, so many HOURS later: the rules are asked where there is no oil. */
    private static Slickboom afterALeak(int hour, int later) {
        Slickboom x = new Slickboom();
        x.ship(14, 9000);
        if (hour > 1) {
            x.pass(hour - 1);
        }
        x.hole(0, 9);
        x.pass(1);
        x.hole(0, 0);
        x.wind(Slickboom.EAST, 2);
        for (int left = later; left > 0; left -= 48) {
            x.pass(Math.min(left, 48));
        }
        return x;
    }

    /** Promise 20: "2: the first leak was more than 72 HOURS ago" */
    private static void leakMoreThan72HoursAgo() {
        for (int hour : new int[] {1, 2, 12, 30}) {
            for (int later : new int[] {0, 1, 24, 25, 71, 72}) {
                against(later + " HOURS ago", afterALeak(hour, later), 12, DISPERSING);
            }
            for (int later : new int[] {73, 74, 400}) {
                against(later + " HOURS ago", afterALeak(hour, later), 12, DISPERSING, 2);
            }
        }
    }

    /** Promise 20: "2: the first leak was more than 24 HOURS ago" */
    private static void leakMoreThan24HoursAgo() {
        for (int hour : new int[] {1, 2, 12, 30}) {
            for (int later : new int[] {0, 1, 23, 24}) {
                against(later + " HOURS ago", afterALeak(hour, later), 12, BURNING, 1);
            }
            for (int later : new int[] {25, 26, 72, 73, 400}) {
                against(later + " HOURS ago", afterALeak(hour, later), 12, BURNING, 1, 2);
            }
        }
    }

    /** Promise 20: "or none was" */
    private static void noLeakWas() {
        Slickboom x = new Slickboom();
        x.wind(Slickboom.EAST, 2);
        against("none was, at the HOUR 0", x, 3, DISPERSING, 2);
        against("none was, at the HOUR 0", x, 3, BURNING, 1, 2);
        x.pass(20);
        against("none was, later", x, 3, DISPERSING, 2);
        against("none was, later", x, 3, BURNING, 1, 2);
    }

    /** Promise 20: "(A leak is one of 1 litre or more" */
    private static void leakOfALitre() {
        // the TIDE is 1: a LEVEL of 2 leaks its rate, one of 1 nothing
        int[] litres = {2000, 2000, 1999};
        int[] rates = {0, 1, 99};
        for (int i = 0; i < 3; i++) {
            Slickboom x = new Slickboom();
            x.hole(x.ship(14, litres[i]), rates[i]);
            x.wind(Slickboom.EAST, 2);
            x.pass(1);
            Check.is("20: leaked", x.sum(1), i == 1 ? 1 : 0);
            against("of " + x.sum(1) + " litres", x, 14, DISPERSING, i == 1 ? new int[0] : new int[] {2});
        }
    }

    /** Promise 20: "it was 0 HOURS ago, if no HOUR passed since.)" */
    private static void leakOfThisHour() {
        // so the HOURS are counted from the HOUR of the leak, not from the one ahead of it
        against("0 HOURS ago", afterALeak(5, 0), 12, DISPERSING);
        against("24 HOURS ago", afterALeak(5, 24), 12, BURNING, 1);
        against("25 HOURS ago", afterALeak(5, 25), 12, BURNING, 1, 2);
    }

    /** Promise 20: "2: the first leak was" */
    private static void firstLeakOfAll() {
        // leaks that come later, of that SHIP or of another one, are not the first
        Slickboom x = afterALeak(1, 20);
        x.hole(x.ship(3, 90000), 50);
        x.hole(0, 9);
        x.pass(4);
        against("24 HOURS ago", x, 12, BURNING, 1);
        x.pass(1);
        against("25 HOURS ago", x, 12, BURNING, 1, 2);
        x.pass(47);
        x.wind(Slickboom.EAST, 2);
        Check.is("20: 72 HOURS ago", x.why(12, DISPERSING, 2), 0);
        x.pass(1);
        Check.is("20: 73 HOURS ago", x.why(12, DISPERSING, 0), 2);
        // what only would leak is none
        Twins.same("20: ahead leaks nothing", () -> {
            Slickboom y = new Slickboom();
            y.hole(y.ship(14, 9000), 9);
            return y;
        }, y -> {
            y.ahead(14, 5);
            y.nextAnew(14);
        });
    }

    /** Promise 20: "3: there is more THICK oil than FRESH" */
    private static void moreThickThanFresh() {
        // 300 FRESH and 33 THICK, of the FRESH ones as many are taken as told
        int[] taken = {266, 267, 268, 300};
        for (int i = 0; i < 4; i++) {
            Slickboom x = new Slickboom();
            Bays.leak(x, 14, 350);
            x.skimmer(14, taken[i], taken[i]);
            x.pass(1);
            x.wind(Slickboom.EAST, 2);
            int fresh = 300 - taken[i];
            against(fresh + " FRESH, 33 THICK", x, 14, DISPERSING, fresh < 33 ? new int[] {3} : new int[0]);
            against(fresh + " FRESH, 33 THICK", x, 14, BURNING, fresh < 33 ? new int[] {1, 3} : new int[] {1});
        }
        for (int fresh = 325; fresh <= 327; fresh++) {
            int[] due = fresh < 326 ? new int[] {3} : new int[0];
            against(fresh + " FRESH, 326 THICK", muchThick(fresh), 14, BURNING, due);
            against(fresh + " FRESH, 326 THICK", muchThick(fresh), 14, DISPERSING, due);
        }
        against("neither FRESH nor THICK oil", ready(), 3, DISPERSING);
    }

    /** Promise 20: "4: the strength of the WIND is below 2" */
    private static void windBelow2() {
        for (int strength = 0; strength <= 9; strength++) {
            Slickboom x = ready();
            x.wind(Slickboom.WEST, strength);
            against("the WIND " + strength, x, 14, DISPERSING, strength < 2 ? new int[] {4} : new int[0]);
        }
    }

    /** Promise 20: "4: the strength of the WIND is above 5" */
    private static void windAbove5() {
        for (int strength = 0; strength <= 9; strength++) {
            Slickboom x = ready();
            x.wind(Slickboom.NORTH, strength);
            against("the WIND " + strength, x, 14, BURNING, strength > 5 ? new int[] {4} : new int[0]);
        }
    }

    private static boolean areBeside(int cell, int other) {
        int rows = Math.abs(cell / 6 - other / 6);
        int columns = Math.abs(cell % 6 - other % 6);
        return rows + columns == 1;
    }

    /** Promise 20: "5: a MARSH is beside the CELL.", "Beside a CELL are those to which ways lead from it." */
    private static void marshBeside() {
        for (int kind = Slickboom.ROCK; kind <= Slickboom.MARSH; kind++) {
            for (int shore = 0; shore < 24; shore++) {
                Slickboom x = new Slickboom();
                x.shore(shore, kind);
                x.wind(Slickboom.EAST, 2);
                for (int cell = 0; cell < 24; cell++) {
                    if (cell != shore) {
                        boolean isAgainst = kind == Slickboom.MARSH && areBeside(cell, shore);
                        against("the kind " + kind + " in " + shore + ", of " + cell, x, cell, DISPERSING,
                                isAgainst ? new int[] {2, 5} : new int[] {2});
                    }
                }
            }
        }
    }

    /** Promise 20: "By BURNING 1: there are fewer than 100 litres of FRESH oil" */
    private static void fewerThan100() {
        // 115 leaked: 5 AIR, 11 thicken, 99 are FRESH; 116: 5 AIR, 11 thicken, 100 are FRESH
        for (int leaked : new int[] {20, 115, 116, 117}) {
            Slickboom x = Bays.floating(14, leaked);
            int fresh = Bays.freshOf(leaked);
            Check.is("20: FRESH of " + leaked, x.at(14, 0), fresh);
            against(fresh + " litres", x, 14, BURNING, fresh < 100 ? new int[] {1} : new int[0]);
            x.wind(Slickboom.EAST, 2);
            against(fresh + " litres", x, 14, DISPERSING);
        }
        Check.is("20: 99 are too few", Bays.freshOf(115), 99);
        Check.is("20: 100 are not", Bays.freshOf(116), 100);
        against("no oil", ready(), 3, BURNING, 1);
    }

    /** Promise 20: "5: a SHORE is beside the CELL." */
    private static void shoreBeside() {
        for (int kind = Slickboom.ROCK; kind <= Slickboom.MARSH; kind++) {
            for (int shore = 0; shore < 24; shore++) {
                Slickboom x = new Slickboom();
                x.shore(shore, kind);
                for (int cell = 0; cell < 24; cell++) {
                    if (cell != shore) {
                        against("the kind " + kind + " in " + shore + ", of " + cell, x, cell, BURNING,
                                areBeside(cell, shore) ? new int[] {1, 2, 5} : new int[] {1, 2});
                    }
                }
            }
        }
        Supplier<Slickboom> island = () -> {
            Slickboom x = new Slickboom();
            x.shore(8, Slickboom.SAND);
            x.shore(8, Slickboom.WATER);
            return x;
        };
        against("a SHORE was there", island.get(), 7, BURNING, 1, 2);
    }
}
