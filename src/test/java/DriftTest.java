/** Promise 9, the step 4: the oil drifts, strands, and BOOMS hold it. */
public final class DriftTest {
    public static void main(String[] args) {
        ways();
        driftsByTheStrength();
        driftsAllAtOnce();
        driftsOut();
        driftsFromWaterAlone();
        shoreHolds();
        shoreHoldsFreshAheadOfThick();
        shoreHoldsWithWhatIsThere();
        boomByStrengths();
        boomHolds();
        boomBreaks();
        boomThatIsBroken();
        boomElsewhere();
        boomWhereNoLitreWouldGo();
        boomAtAShore();
        Check.end();
    }

    // ---- 4: the drift

    /**
     * Promise 9: "The ways are EAST, to the COLUMN 1 more, WEST, to that 1 less, SOUTH, to the ROW 1 more, NORTH, to
     * that 1 less; a way may lead out of the bay."
     */
    private static void ways() {
        for (int cell = 0; cell < 24; cell++) {
            for (int way = Slickboom.EAST; way <= Slickboom.NORTH; way++) {
                Slickboom x = new Slickboom();
                Bays.leak(x, cell, 20);
                x.wind(way, 5);
                x.pass(1);
                int to = Bays.beside(cell, way);
                Check.is("9: stays in " + cell, x.at(cell, 0), 9);
                Check.is("9: OUT of " + cell + " by " + way, x.sum(6), to < 0 ? 9 : 0);
                Check.is("9: floats", x.sum(3), to < 0 ? 10 : 19);
                if (to >= 0) {
                    Check.is("9: from " + cell + " by " + way, x.at(to, 0), 9);
                }
            }
        }
    }

    /**
     * Promise 9: "from each CELL that is WATER the FRESH and the THICK oil, each times the strength of the WIND, by
     * 10, go by the way of the WIND", "to WATER it floats on that, FRESH and THICK as it was"
     */
    private static void driftsByTheStrength() {
        // 350 leaked: 300 FRESH and 33 THICK; 52 leaked: 45 and 5; 9 leaked: 9; 11 leaked: 10 and 1
        int[] leaked = {350, 52, 9, 11};
        int[] fresh = {300, 45, 9, 10};
        int[] thick = {33, 5, 0, 1};
        for (int i = 0; i < leaked.length; i++) {
            for (int strength = 0; strength <= 9; strength++) {
                Slickboom x = new Slickboom();
                Bays.leak(x, 14, leaked[i]);
                x.wind(Slickboom.SOUTH, strength);
                x.pass(1);
                String what = "9: of " + leaked[i] + " by the strength " + strength;
                Check.is(what + " FRESH goes", x.at(20, 0), fresh[i] * strength / 10);
                Check.is(what + " THICK goes", x.at(20, 1), thick[i] * strength / 10);
                Check.is(what + " FRESH stays", x.at(14, 0), fresh[i] - fresh[i] * strength / 10);
                Check.is(what + " THICK stays", x.at(14, 1), thick[i] - thick[i] * strength / 10);
            }
        }
    }

    /** Promise 9: "The oil drifts, all at once" */
    private static void driftsAllAtOnce() {
        int[][] rows = {{8, 9, 10}, {9, 8, 7}, {8, 14, 20}, {14, 8, 2}};
        for (int way = 0; way < 4; way++) {
            Slickboom x = new Slickboom();
            Bays.leak(x, rows[way][0], 350);
            x.hole(x.ship(rows[way][1], 8000), 50);
            x.wind(way, 9);
            x.pass(1);
            Check.is("9: the first keeps a tenth", x.at(rows[way][0], 0), 30);
            Check.is("9: the second has a tenth of its own, and the first's", x.at(rows[way][1], 0), 300);
            Check.is("9: the third has the second's alone", x.at(rows[way][2], 0), 270);
        }
    }

    /** Promise 9: "out of the bay it is OUT" */
    private static void driftsOut() {
        int[] from = {11, 12, 19, 4};
        for (int way = 0; way < 4; way++) {
            Slickboom x = new Slickboom();
            Bays.leak(x, from[way], 350);
            x.wind(way, 3);
            x.pass(1);
            Check.is("9: OUT, FRESH and THICK", x.sum(6), 99);
            Check.is("9: FRESH stays", x.at(from[way], 0), 210);
            Check.is("9: THICK stays", x.at(from[way], 1), 24);
            Check.is("9: it floats nowhere else", x.sum(3), 234);
        }
    }

    /** Promise 9: "from each CELL that is WATER" */
    private static void driftsFromWaterAlone() {
        for (int way = 0; way < 4; way++) {
            Slickboom x = Bays.blown(Slickboom.MARSH, 900);
            x.wind(way, 9);
            x.pass(1);
            Check.is("9: STRANDED oil stays by " + way, x.at(8, 2) >= 900, true);
            int beyond = Bays.beside(8, way);
            if (beyond != 7) {
                Check.is("9: nothing goes beyond the SHORE", x.at(beyond, 0) + x.at(beyond, 1), 0);
            }
        }
    }

    /**
     * Promise 9: "or a SHORE: ROCK, SAND or MARSH, by whose kind it holds 200, 500 or 1000 litres.", "as far as that
     * holds it", "what it does not hold stays where it was."
     */
    private static void shoreHolds() {
        int[] holds = {0, 200, 500, 1000};
        for (int kind = Slickboom.ROCK; kind <= Slickboom.MARSH; kind++) {
            int most = holds[kind];
            for (int litres = most - 2; litres <= most + 2; litres++) {
                Slickboom x = Bays.blown(kind, litres);
                int all = x.sum(1) - x.sum(4) - x.sum(5);
                Check.is("9: the kind " + kind + " by " + litres, x.at(8, 2), Math.min(litres, most));
                Check.is("9: the rest stays", x.at(7, 0) + x.at(7, 1), all - Math.min(litres, most));
                Check.is("9: the rest is nowhere else", x.sum(3), all - Math.min(litres, most));
            }
            Slickboom much = new Slickboom();
            much.shore(8, kind);
            Bays.leak(much, 7, 9899);
            much.wind(Slickboom.EAST, 9);
            much.pass(1);
            Check.is("9: full", much.at(8, 2), most);
            much.pass(3);
            Check.is("9: full still", much.at(8, 2), most);
            Check.is("9: nothing is OUT", much.sum(6), 0);
        }
        Slickboom none = Bays.blown(Slickboom.ROCK, 0);
        Check.is("9: an empty SHORE", none.at(8, 2), 0);
        Check.is("9: of one litre", Bays.blown(Slickboom.ROCK, 1).at(8, 2), 1);
    }

    /** Promise 9: "to a SHORE it is STRANDED, FRESH ahead of THICK" */
    private static void shoreHoldsFreshAheadOfThick() {
        for (int leaked = 180; leaked <= 270; leaked++) {
            Slickboom x = new Slickboom();
            x.shore(8, Slickboom.ROCK);
            Bays.leak(x, 7, leaked);
            x.wind(Slickboom.EAST, 9);
            x.pass(1);
            int fresh = Math.min(Bays.freshOf(leaked) * 9 / 10, 200);
            int thick = Math.min(Bays.thickOf(leaked) * 9 / 10, 200 - fresh);
            Check.is("9: FRESH stays, of " + leaked, x.at(7, 0), Bays.freshOf(leaked) - fresh);
            Check.is("9: THICK stays, of " + leaked, x.at(7, 1), Bays.thickOf(leaked) - thick);
            Check.is("9: STRANDED, of " + leaked, x.at(8, 2), fresh + thick);
        }
    }

    /** Promise 9: "with what is STRANDED there ahead of it" */
    private static void shoreHoldsWithWhatIsThere() {
        // more than 10 litres would go in the second HOUR
        for (int there = 190; there <= 200; there++) {
            Slickboom x = Bays.blown(Slickboom.ROCK, there);
            x.wind(Slickboom.EAST, 9);
            int before = x.at(7, 0) + x.at(7, 1);
            int air = x.sum(4);
            x.pass(1);
            Check.is("9: 200 with " + there + " there", x.at(8, 2), 200);
            Check.is("9: what it does not hold stays", x.at(7, 0) + x.at(7, 1),
                    before - (x.sum(4) - air) - (200 - there));
        }
    }

    // ---- 4: BOOMS

    /**
     * Promise 9: "with a strength of that of the WIND, or more, nothing goes; otherwise it is BROKEN by that, and all
     * goes as without it."
     */
    private static void boomByStrengths() {
        for (int boom = 1; boom <= 9; boom++) {
            for (int wind = 0; wind <= 9; wind++) {
                Slickboom x = new Slickboom();
                Bays.leak(x, 14, 350);
                x.boom(14, Slickboom.EAST, boom);
                x.wind(Slickboom.EAST, wind);
                x.pass(1);
                boolean isHeld = boom >= wind;
                String what = "9: a BOOM of " + boom + " by a WIND of " + wind;
                Check.is(what + ", BROKEN", x.meanIs(0, 3), isHeld ? 0 : 1);
                Check.is(what + ", FRESH came", x.at(15, 0), isHeld ? 0 : 30 * wind);
                Check.is(what + ", THICK came", x.at(15, 1), isHeld ? 0 : 33 * wind / 10);
                Check.is(what + ", FRESH stayed", x.at(14, 0), isHeld ? 300 : 300 - 30 * wind);
            }
        }
    }

    /** Promise 9: "If there is a BOOM on the border, not BROKEN, over which any oil would go so" */
    private static void boomHolds() {
        int[] cells = {15, 13, 20, 8};
        int[] back = {Slickboom.WEST, Slickboom.EAST, Slickboom.NORTH, Slickboom.SOUTH};
        for (int way = 0; way < 4; way++) {
            for (int told = 0; told < 2; told++) {
                Slickboom x = new Slickboom();
                Bays.leak(x, 14, 350);
                x.boom(told == 0 ? 14 : cells[way], told == 0 ? way : back[way], 5);
                x.wind(way, 5);
                x.pass(1);
                Check.is("9: nothing goes by " + way, x.at(14, 0), 300);
                Check.is("9: nothing comes by " + way, x.at(cells[way], 0), 0);
                Check.is("9: it is not BROKEN", x.meanIs(0, 3), 0);
                x.wind(way, 6);
                x.pass(1);
                Check.is("9: BROKEN by a stronger WIND", x.meanIs(0, 3), 1);
                Check.is("9: it comes then", x.at(cells[way], 0) > 0, true);
            }
        }
        int[] ends = {17, 12, 20, 2};
        for (int way = 0; way < 4; way++) {
            Slickboom x = new Slickboom();
            Bays.leak(x, ends[way], 350);
            x.boom(ends[way], way, 9);
            x.wind(way, 9);
            x.pass(1);
            Check.is("9: nothing is OUT by " + way, x.sum(6), 0);
            Check.is("9: it stays in the bay", x.at(ends[way], 0), 300);
        }
    }

    /** Promise 9: "otherwise it is BROKEN by that" */
    private static void boomBreaks() {
        // one litre is enough: of 2 by the strength 5
        Slickboom one = new Slickboom();
        one.hole(one.ship(0, 2000), 2);
        one.boom(0, Slickboom.EAST, 4);
        one.wind(Slickboom.EAST, 5);
        one.pass(1);
        Check.is("9: one litre goes", one.at(1, 0), 1);
        Check.is("9: and breaks", one.meanIs(0, 3), 1);
        // 33 THICK litres alone: the FRESH ones are skimmed
        Slickboom thick = new Slickboom();
        Bays.leak(thick, 0, 350);
        thick.skimmer(0, 300, 300);
        thick.pass(1);
        Bays.stop(thick);
        thick.boom(1, Slickboom.WEST, 1);
        thick.wind(Slickboom.EAST, 2);
        thick.pass(1);
        Check.is("9: THICK oil goes", thick.at(1, 1), 6);
        Check.is("9: and breaks", thick.meanIs(1, 3), 1);
        // out of the bay, too
        Slickboom out = new Slickboom();
        Bays.leak(out, 5, 350);
        out.boom(5, Slickboom.NORTH, 2);
        out.wind(Slickboom.NORTH, 3);
        out.pass(1);
        Check.is("9: BROKEN at the end of the bay", out.meanIs(0, 3), 1);
        Check.is("9: OUT", out.sum(6), 99);
    }

    /** Promise 9: "a BOOM on the border, not BROKEN" */
    private static void boomThatIsBroken() {
        Slickboom x = new Slickboom();
        Bays.leak(x, 14, 350);
        x.boom(14, Slickboom.EAST, 5);
        x.wind(Slickboom.EAST, 6);
        x.pass(1);
        Check.is("9: BROKEN", x.meanIs(0, 3), 1);
        Bays.stop(x);
        x.wind(Slickboom.EAST, 5);
        x.pass(1);
        // 120 in 14: 6 AIR, 11 thicken, 51 of 103 go; 180 in 15: 9 AIR, 17 thicken, 77 of 154 go
        Check.is("9: BROKEN it holds nothing of a WIND that it would have held", x.at(14, 0), 103 - 51);
        Check.is("9: what came", x.at(15, 0), 154 - 77 + 51);
        Check.is("9: it stays BROKEN", x.meanIs(0, 3), 1);
        x.boom(15, Slickboom.WEST, 5);
        int there = x.at(14, 0);
        x.pass(1);
        Check.is("9: a new one there holds", x.at(14, 0), there - there / 20 - (there - there / 20) / 10);
        Check.is("9: the old one is BROKEN", x.meanIs(0, 3), 1);
        Check.is("9: the new one is not", x.meanIs(1, 3), 0);
        x.wind(Slickboom.EAST, 9);
        x.pass(1);
        Check.is("9: the new one is BROKEN, too", x.meanIs(1, 3), 1);
    }

    /** Promise 9: "on the border, not BROKEN, over which any oil would go so" */
    private static void boomElsewhere() {
        Slickboom x = new Slickboom();
        Bays.leak(x, 14, 350);
        x.boom(14, Slickboom.WEST, 1);
        x.boom(14, Slickboom.NORTH, 1);
        x.boom(14, Slickboom.SOUTH, 1);
        x.boom(13, Slickboom.NORTH, 1);
        x.boom(20, Slickboom.EAST, 1);
        x.boom(8, Slickboom.EAST, 1);
        x.boom(15, Slickboom.EAST, 1);
        x.boom(17, Slickboom.EAST, 1);
        x.wind(Slickboom.EAST, 9);
        x.pass(1);
        for (int boom = 0; boom < 8; boom++) {
            Check.is("9: no oil goes over the BOOM " + boom, x.meanIs(boom, 3), 0);
        }
        Check.is("9: none hinders it", x.at(15, 0), 270);
        x.pass(1);
        Check.is("9: now over that one", x.meanIs(6, 3), 1);
        Check.is("9: still not over that one", x.meanIs(7, 3), 0);
        // the ends of two ROWS have a border each
        Slickboom y = new Slickboom();
        Bays.leak(y, 11, 350);
        y.boom(12, Slickboom.WEST, 9);
        y.wind(Slickboom.EAST, 3);
        y.pass(1);
        Check.is("9: the begin of the next ROW is no matter", y.sum(6), 99);
    }

    /** Promise 9: "(Where no litre would go, as with a SHORE that is full, no BOOM breaks.)" */
    private static void boomWhereNoLitreWouldGo() {
        // 1 litre by the strength 9 is none, 2 litres are one
        for (int litres = 1; litres <= 2; litres++) {
            Slickboom x = new Slickboom();
            x.hole(x.ship(0, 2000), litres);
            x.boom(0, Slickboom.EAST, 1);
            x.wind(Slickboom.EAST, 9);
            x.pass(1);
            Check.is("9: FRESH came", x.at(1, 0), litres - 1);
            Check.is("9: BROKEN by " + litres, x.meanIs(0, 3), litres - 1);
        }
        // 9 litres by the strength 1 are none, 10 are one: but such a WIND no BOOM is too weak for
        Slickboom empty = new Slickboom();
        empty.boom(0, Slickboom.EAST, 1);
        empty.wind(Slickboom.EAST, 9);
        empty.pass(48);
        Check.is("9: without oil", empty.meanIs(0, 3), 0);
        // FRESH and THICK, each by itself: 1 and 1 by the strength 9 are none
        Slickboom both = new Slickboom();
        Bays.leak(both, 0, 11);
        both.skimmer(0, 9, 9);
        both.pass(1);
        Check.is("9: 1 FRESH", both.at(0, 0), 1);
        Check.is("9: 1 THICK", both.at(0, 1), 1);
        Bays.stop(both);
        both.boom(0, Slickboom.EAST, 1);
        both.wind(Slickboom.EAST, 9);
        both.pass(1);
        Check.is("9: 1 and 1 go not", both.meanIs(1, 3), 0);
    }

    /** Promise 9: "as with a SHORE that is full, no BOOM breaks.", "and all goes as without it." */
    private static void boomAtAShore() {
        for (int there = 198; there <= 200; there++) {
            Slickboom x = Bays.blown(Slickboom.ROCK, there);
            x.boom(8, Slickboom.WEST, 4);
            x.wind(Slickboom.EAST, 5);
            x.pass(1);
            Check.is("9: a BOOM at a SHORE with " + there, x.meanIs(0, 3), there == 200 ? 0 : 1);
            Check.is("9: filled with " + there, x.at(8, 2), 200);
        }
        Slickboom held = Bays.blown(Slickboom.ROCK, 199);
        held.boom(7, Slickboom.EAST, 5);
        held.wind(Slickboom.EAST, 5);
        held.pass(1);
        Check.is("9: held ahead of a SHORE", held.at(8, 2), 199);
        Check.is("9: it is not BROKEN", held.meanIs(0, 3), 0);
    }
}
