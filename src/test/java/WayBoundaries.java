/** Promises 8 to 11: each sentence that names a boundary case. */
final class WayBoundaries {
    /** The longest way that winds up and down from one corner to the other: 41 cells. */
    private static final String[] LONGEST = {"900000000", "909990999", "909090909", "909090909", "909090909", "909090909",
        "909090909", "999099909", "000000009"};

    private WayBoundaries() {
    }

    static void all(Boundary boundary) {
        boundary.of("Promise 8", "whether the depth that is safe by the chart is meant", WayBoundaries::safeByTheChart);
        boundary.of("Promise 8", "(a cell without a sounding cannot be passed), otherwise the depth as it is",
            WayBoundaries::withoutSounding);
        boundary.of("Promise 8", "Returns the fewest cells of a way; -1 if there is none.", WayBoundaries::fewestCells);
        boundary.of("Promise 8", "Throws `IllegalArgumentException` if draught is not 0 to 39", WayBoundaries::wayBounds);
        boundary.of("Promise 9", "as above", WayBoundaries::deepestByTheChart);
        boundary.of("Promise 9", "Returns the greatest draught for which there is a way, -1 if there is none even for 0.",
            WayBoundaries::greatestDraught);
        boundary.of("Promise 10", "Returns how many cells of the row 8 there are to which some way leads, by the depth as it is.",
            WayBoundaries::someWayLeads);
        boundary.of("Promise 10", "Throws `IllegalArgumentException` if draught is not 0 to 39", () ->
            Boundary.bounds("harbours", Boundary.ARGUMENT, 0, 39, (reef, draught) -> reef.harbours(draught)));
        pilotAll(boundary);
    }

    private static void pilotAll(Boundary boundary) {
        boundary.of("Promise 11", "Leads a ship along the shortest way by the chart, from the row 0 on",
            WayBoundaries::shortestByTheChart);
        boundary.of("Promise 11", "of the cells from which the way is as short the one with the smallest x first",
            WayBoundaries::smallestX);
        boundary.of("Promise 11", "then again and again to the neighbour from which it is shortest, of several above, left, right, below.",
            WayBoundaries::ofSeveral);
        boundary.of("Promise 11", "Returns 9 * y and x of the cell where it grounds", WayBoundaries::whereItGrounds);
        boundary.of("Promise 11", "(the first one on the way, with the first cell, whose depth is not more than the draught)",
            WayBoundaries::firstOnTheWay);
        boundary.of("Promise 11", "81 if it comes through; -1 if there is no way by the chart.", WayBoundaries::comesThrough);
        boundary.of("Promise 11", "Throws `IllegalArgumentException` if draught is not 0 to 39", () ->
            Boundary.bounds("pilot", Boundary.ARGUMENT, 0, 39, (reef, draught) -> reef.pilot(draught)));
    }

    private static ReefPilot charted(String... rows) {
        ReefPilot on = Coasts.of(rows);
        Coasts.soundAll(on);
        return on;
    }

    /** One column is charted; nothing grows or breaks. */
    private static ReefPilot column(int x, int ground) {
        ReefPilot on = new ReefPilot();
        for (int y = 0; y < 9; y++) {
            on.setGround(x, y, ground);
            on.sound(x, y);
        }
        return on;
    }

    // ---- promise 8

    private static void safeByTheChart() {
        ReefPilot on = column(8, 20);
        Check.same("a safe depth of 1 more than the draught", on.way(19, true), 9);
        Check.same("a safe depth of the draught", on.way(20, true), -1);
        on.pass(1);
        Check.same("a month is cut away", on.way(19, true), 9);
        on.pass(1);
        Check.same("two months are 1 less", on.way(19, true), -1);
        Check.same("two months are 1 less, no more", on.way(18, true), 9);
        on.pass(37);
        Check.same("39 months, a safe depth of 1", on.way(0, true), 9);
        on.pass(1);
        Check.same("40 months, a safe depth of 0", on.way(0, true), -1);
        on.pass(120);
        Check.same("long behind, still 0", on.way(0, true), -1);
        Check.same("the depth as it is", on.way(19, false), 9);
        ReefPilot changed = column(0, 20);
        for (int x = 0; x < 9; x++) {
            changed.setGround(x, 4, 0);
        }
        Check.same("the chart does not know that it is shut", changed.way(19, true), 9);
        Check.same("it is shut", changed.way(0, false), -1);
        changed.sound(0, 4);
        Check.same("a sounding of 0", changed.way(0, true), -1);
        changed.setGround(0, 4, 1);
        changed.sound(0, 4);
        Check.same("a sounding of 1", changed.way(0, true), 9);
    }

    private static void withoutSounding() {
        Check.same("no sounding at all", new ReefPilot().way(0, true), -1);
        for (int missing = 0; missing < 9; missing++) {
            ReefPilot on = new ReefPilot();
            for (int y = 0; y < 9; y++) {
                if (y != missing) {
                    on.sound(5, y);
                }
            }
            Check.same("without row " + missing, on.way(0, true), -1);
            Check.same("without row " + missing + ", the depth as it is", on.way(19, false), 9);
            on.sound(5, missing);
            Check.same("with row " + missing, on.way(19, true), 9);
        }
        ReefPilot round = column(5, 20);
        round.setGround(5, 4, 0);
        round.sound(5, 4);
        round.sound(6, 3);
        round.sound(6, 4);
        Check.same("round a shallow, one without a sounding", round.way(0, true), -1);
        round.sound(6, 5);
        Check.same("round a shallow", round.way(0, true), 11);
    }

    private static void fewestCells() {
        Check.same("straight", new ReefPilot().way(0, false), 9);
        Check.same("none", Coasts.flat(0).way(0, false), -1);
        ReefPilot winding = charted(LONGEST);
        Check.same("winding", winding.way(8, false), 41);
        Check.same("winding, by the chart", winding.way(8, true), 41);
        Check.same("winding, none", winding.way(9, false), -1);
        winding.setGround(7, 4, 9);
        Check.same("a short cut", winding.way(8, false), 35);
        Check.same("that the chart does not know", winding.way(8, true), 41);
        winding.setGround(8, 0, 9);
        Check.same("a way of 9 beside it", winding.way(8, false), 9);
        winding.setGround(8, 5, 8);
        Check.same("and not", winding.way(8, false), -1);
        Check.same("but for a smaller ship", winding.way(7, false), 9);
        Check.same("up again on the way", Coasts.of("009000000", "009000000", "009000000", "009000000", "009099900",
            "009090900", "009990900", "000000900", "000000900").way(0, false), 17);
    }

    private static void wayBounds() {
        Boundary.bounds("way by the depth", Boundary.ARGUMENT, 0, 39, (reef, draught) -> reef.way(draught, false));
        Boundary.bounds("way by the chart", Boundary.ARGUMENT, 0, 39, (reef, draught) -> reef.way(draught, true));
        ReefPilot deep = Coasts.flat(40);
        Check.same("the greatest draught", deep.way(39, false), 9);
        deep.plant(0, 0, 1);
        Check.same("the least", deep.way(0, false), 9);
    }

    // ---- promises 9 and 10

    private static void greatestDraught() {
        for (int depth = 0; depth <= 40; depth++) {
            ReefPilot on = Coasts.flat(depth);
            Check.same("depth " + depth + ", no soundings", on.deepest(true), -1);
            Coasts.soundAll(on);
            Check.same("depth " + depth, on.deepest(false), depth - 1);
            Check.same("depth " + depth + " by the chart", on.deepest(true), depth - 1);
            on.pass(1);
            Check.same("depth " + depth + " by the chart behind a month", on.deepest(true), depth - 1);
            on.pass(1);
            Check.same("depth " + depth + " by the chart behind two", on.deepest(true), depth == 0 ? -1 : depth - 2);
            on.pass(120);
            Check.same("depth " + depth + " by the chart long behind", on.deepest(true), -1);
        }
        ReefPilot ways = Coasts.of("030050070", "040050070", "050060070", "060070070", "070090050", "060000060",
            "050080070", "040060080", "003333300");
        Check.same("no way", ways.deepest(false), -1);
        ways.setGround(4, 5, 1);
        Check.same("a way for 0 alone", ways.deepest(false), 0);
        ways.setGround(1, 8, 9);
        Check.same("the deepest of two ways", ways.deepest(false), 2);
        ways.setGround(7, 8, 40);
        Check.same("the deepest of three ways", ways.deepest(false), 4);
    }

    private static void deepestByTheChart() {
        ReefPilot on = column(3, 20);
        on.setGround(3, 0, 40);
        on.sound(3, 0);
        Check.same("one column is charted", on.deepest(true), 19);
        on.setGround(3, 4, 7);
        Check.same("the chart does not know the shallow", on.deepest(true), 19);
        for (int x = 0; x < 9; x++) {
            on.setGround(x, 4, 7);
        }
        Check.same("the depth as it is", on.deepest(false), 6);
        on.pass(3);
        Check.same("three months old", on.deepest(true), 18);
        on.sound(3, 4);
        Check.same("the shallow is sounded", on.deepest(true), 6);
        ReefPilot gap = new ReefPilot();
        for (int y = 0; y < 8; y++) {
            gap.sound(8, y);
        }
        Check.same("the last cell has no sounding", gap.deepest(true), -1);
        gap.setGround(8, 8, 1);
        gap.sound(8, 8);
        Check.same("the last cell has one of 1", gap.deepest(true), 0);
    }

    private static void someWayLeads() {
        for (int open = 0; open < 512; open++) {
            ReefPilot on = new ReefPilot();
            for (int x = 0; x < 9; x++) {
                on.setGround(x, 8, (open >> x & 1) == 1 ? 7 : 6);
            }
            Check.same("row 8 open at " + Integer.toBinaryString(open), on.harbours(6), Integer.bitCount(open));
            Check.same("all of it", on.harbours(5), 9);
            Check.same("none of it", on.harbours(7), 0);
        }
        ReefPilot alongTheShore = Coasts.of("000000009", "000000009", "000000009", "000000009", "000000009", "000000009",
            "000000009", "000000009", "999909999");
        Check.same("along the shore, as far as it is open", alongTheShore.harbours(0), 4);
        alongTheShore.setGround(4, 8, 1);
        Check.same("along the whole shore", alongTheShore.harbours(0), 9);
        Check.same("for a greater ship", alongTheShore.harbours(1), 4);
        ReefPilot inland = Coasts.of("900000000", "900000000", "900000000", "900099990", "900090090", "900090090",
            "900090090", "900090090", "900990099");
        Check.same("cells that only inland water joins are none", inland.harbours(0), 1);
        inland.setGround(4, 0, 9);
        inland.setGround(4, 1, 9);
        inland.setGround(4, 2, 9);
        Check.same("joined to the sea", inland.harbours(0), 5);
        Check.same("by the depth as it is, without soundings", inland.way(0, true), -1);
    }

    // ---- promise 11

    /** Of all 81 cells one after the other is made too shallow behind the charting: just those of the way ground it. */
    private static void wayIs(String what, int[] cells, String... rows) {
        Check.same(what + ", its length", charted(rows).way(8, true), cells.length);
        Check.same(what + ", nothing in its way", charted(rows).pilot(8), 81);
        boolean[] onTheWay = new boolean[81];
        for (int place : cells) {
            onTheWay[place] = true;
        }
        for (int place = 0; place < 81; place++) {
            ReefPilot on = charted(rows);
            on.setGround(place % 9, place / 9, 8);
            Check.same(what + ", cell " + place + " too shallow", on.pilot(8), onTheWay[place] ? place : 81);
        }
    }

    private static void shortestByTheChart() {
        ReefPilot on = charted(LONGEST);
        on.setGround(7, 4, 9);
        on.setGround(7, 1, 8);
        Check.same("a short cut that the chart does not know is not taken", on.pilot(8), 16);
        on.sound(7, 4);
        Check.same("one that it knows is", on.pilot(8), 81);
        on.sound(7, 1);
        Check.same("the only one left", on.pilot(8), 81);
        on.setGround(7, 4, 0);
        Check.same("the chart does not know that it is shut", on.pilot(8), 43);
        on.sound(7, 4);
        Check.same("it knows", on.pilot(8), -1);
        ReefPilot two = charted("900900000", "900900000", "900900000", "900900000", "990900000", "090900000", "090900000",
            "090900000", "090900000");
        two.setGround(3, 5, 1);
        Check.same("the way of 9, though only the way of 10 is deep enough", two.pilot(1), 48);
        Check.same("which the chart knows too", two.way(1, true), 9);
        two.sound(3, 5);
        Check.same("then the way of 10", two.pilot(1), 81);
        Check.same("its length", two.way(1, true), 10);
    }

    private static void smallestX() {
        for (int first = 0; first < 9; first++) {
            ReefPilot on = new ReefPilot();
            for (int x = first; x < 9; x++) {
                for (int y = 0; y < 9; y++) {
                    on.sound(x, y);
                }
            }
            on.setGround(first, 0, 3);
            Check.same("columns " + first + " to 8", on.pilot(3), first);
        }
        wayIs("the smallest x is not the shortest", new int[] {6, 15, 24, 33, 42, 51, 60, 69, 78}, "009000900",
            "009000900", "009000900", "009900900", "000900900", "000900900", "000900900", "000900900", "000900900");
        wayIs("two as short", new int[] {3, 12, 21, 30, 39, 48, 57, 66, 75}, "000909000", "000909000", "000909000",
            "000909000", "000909000", "000909000", "000909000", "000909000", "000909000");
    }

    private static void ofSeveral() {
        wayIs("above ahead of left", new int[] {8, 17, 26, 35, 44, 43, 42, 33, 32, 31, 30, 39, 48, 57, 66, 75},
            "000000009", "000000009", "000000009", "000999909", "000909999", "000900000", "000900000", "000900000",
            "000900000");
        wayIs("above ahead of right", new int[] {0, 9, 18, 27, 36, 37, 38, 29, 30, 31, 32, 41, 50, 59, 68, 77},
            "900000000", "900000000", "900000000", "909999000", "999909000", "000009000", "000009000", "000009000",
            "000009000");
        wayIs("above ahead of below", new int[] {8, 17, 26, 35, 44, 43, 42, 41, 40, 31, 30, 29, 38, 47, 56, 65, 74},
            "000000009", "000000009", "000000009", "009990009", "009099999", "009090000", "009099999", "009000009",
            "009000009");
        wayIs("left ahead of right", new int[] {4, 13, 12, 21, 30, 39, 48, 57, 66, 75}, "000090000", "000999000",
            "000909000", "000909000", "000909000", "000909000", "000909000", "000909000", "000909000");
        wayIs("left ahead of below", new int[] {5, 14, 13, 22, 31, 40, 49, 58, 67, 76}, "000009000", "000099000",
            "000099000", "000090000", "000090000", "000090000", "000090000", "000090000", "000090000");
        wayIs("right ahead of below", new int[] {3, 12, 13, 22, 31, 40, 49, 58, 67, 76}, "000900000", "000990000",
            "000990000", "000090000", "000090000", "000090000", "000090000", "000090000", "000090000");
        wayIs("the shortest ahead of the first", new int[] {4, 13, 22, 31, 40, 49, 58, 67, 76}, "000090000",
            "009999900", "009090900", "009090900", "009090900", "009090900", "009090900", "009090900", "009999900");
        wayIs("the longest way", new int[] {0, 9, 18, 27, 36, 45, 54, 63, 64, 65, 56, 47, 38, 29, 20, 11, 12, 13, 22, 31,
            40, 49, 58, 67, 68, 69, 60, 51, 42, 33, 24, 15, 16, 17, 26, 35, 44, 53, 62, 71, 80}, LONGEST);
    }

    private static void whereItGrounds() {
        for (int place = 0; place < 81; place++) {
            int x = place % 9;
            ReefPilot on = column(x, 20);
            on.setGround(x, place / 9, 19);
            Check.same("in column " + x + ", row " + place / 9, on.pilot(19), place);
            Check.same("a smaller ship does not", on.pilot(18), 81);
        }
    }

    private static void firstOnTheWay() {
        for (int y = 0; y < 9; y++) {
            ReefPilot on = column(2, 20);
            for (int below = y; below < 9; below++) {
                on.setGround(2, below, 5 + y - below < 0 ? 0 : 5 + y - below);
            }
            Check.same("the first of several, from row " + y, on.pilot(5), 9 * y + 2);
            Check.same("a depth of 1 more than the draught does not ground it, from row " + y, on.pilot(4),
                y == 8 ? 81 : 9 * y + 11);
        }
        ReefPilot first = column(2, 20);
        first.plant(2, 0, 20);
        Check.same("the first cell counts, without depth", first.pilot(0), 2);
        first.plant(2, 0, 19);
        Check.same("a depth of 1", first.pilot(0), 81);
        Check.same("a depth of 1 and a draught of 1", first.pilot(1), 2);
        first.plant(2, 0, 0);
        first.pass(30);
        first.setGround(2, 8, 4);
        Check.same("the depth as it is grounds it, not the chart", first.pilot(4), 74);
        Check.same("the safe depth is 5", first.pilot(5), -1);
        Check.same("a depth of 4 lets a draught of 3 through", first.pilot(3), 81);
    }

    private static void comesThrough() {
        Check.same("without soundings", new ReefPilot().pilot(0), -1);
        ReefPilot deep = Coasts.flat(40);
        Coasts.soundAll(deep);
        Check.same("the greatest draught", deep.pilot(39), 81);
        deep.pass(2);
        Check.same("the greatest draught, two months later", deep.pilot(39), -1);
        Check.same("1 less", deep.pilot(38), 81);
        ReefPilot shut = column(4, 20);
        Coasts.setAllGround(shut, 0);
        Check.same("a way by the chart alone", shut.pilot(0), 4);
        ReefPilot uncharted = column(4, 0);
        Coasts.setAllGround(uncharted, 20);
        Check.same("a way by the depth alone", uncharted.pilot(0), -1);
        Check.same("there is one by the depth", uncharted.way(0, false), 9);
    }
}
