/** The month's four steps, and promise 12 by which they go: each sentence that names a boundary case. */
final class MonthBoundaries {
    private static final String GROWTH = "Growth, all by what was before: ";
    private static final String SEEDING = "Seeding, all by what is there behind step 1: ";
    /** The neighbours of the middle cell 4, 4: above, left, right, below. */
    private static final int[][] BESIDE = {{4, 3}, {3, 4}, {5, 4}, {4, 5}};

    private MonthBoundaries() {
    }

    static void all(Boundary boundary) {
        growthAll(boundary);
        seedingAll(boundary);
        stormAll(boundary);
        boundary.of("Terms", "The month is 1 greater.", MonthBoundaries::oneGreater);
        boundary.of("Promise 12", "Lets months go by.", MonthBoundaries::oneByOne);
        boundary.of("Promise 12", "Returns how many heads there are more than before (less than 0, if fewer).",
            MonthBoundaries::headsMore);
        boundary.of("Promise 12", "Throws `IllegalArgumentException` if months is not 1 to 120",
            MonthBoundaries::monthsToPass);
    }

    private static void growthAll(Boundary boundary) {
        boundary.of("Terms", GROWTH, MonthBoundaries::growthByWhatWas);
        boundary.of("Terms", "with a warmth of 3 to 7", MonthBoundaries::growthByWarmth);
        boundary.of("Terms", "the coral of each cell with coral", MonthBoundaries::growthOfCoral);
        boundary.of("Terms", "and a depth of 2 to 15 becomes 1 higher", MonthBoundaries::growthByDepth);
        boundary.of("Terms", "and 1 more, if at least two neighbours are heads", MonthBoundaries::growthByHeads);
        boundary.of("Terms", "but never higher than the ground less 1.", MonthBoundaries::growthBelowGround);
        boundary.of("Terms", "With a warmth of 8 or 9 each coral dies back by 1 (at least 0).", MonthBoundaries::dieBack);
    }

    private static void seedingAll(Boundary boundary) {
        boundary.of("Terms", SEEDING, MonthBoundaries::seedingBehindGrowth);
        boundary.of("Terms", "each cell without coral", MonthBoundaries::seedingWithoutCoral);
        boundary.of("Terms", "with a ground of 3 to 15", MonthBoundaries::seedingByGround);
        boundary.of("Terms", "and a neighbour that is a head, gets a coral of 1.", MonthBoundaries::seedingByHeads);
    }

    private static void stormAll(Boundary boundary) {
        boundary.of("Terms", "Storm, row by row from the open sea", MonthBoundaries::stormBehindSeeding);
        boundary.of("Terms", "each coral with a depth of less than the storm / 2", MonthBoundaries::stormByDepth);
        boundary.of("Terms", "breaks by storm / 3, or by all that there is of it, if this is less",
            MonthBoundaries::stormBreaks);
        boundary.of("Terms", "what broke goes as rubble to the cell below (the next one towards the shore)",
            MonthBoundaries::rubbleBelow);
        boundary.of("Terms", "its ground is as much less deep (at least 0, and not less than its coral)",
            MonthBoundaries::rubbleAtLeast);
        boundary.of("Terms", "beyond the last row it is lost.", MonthBoundaries::rubbleLost);
        boundary.of("Terms", "Each row is looked at as the rows above have left it.", MonthBoundaries::rowsAboveLeftIt);
    }

    // ---- the middle cell and its neighbours

    private static ReefPilot middle(int warmth, int storm, int ground, int coral) {
        ReefPilot on = new ReefPilot();
        on.setMonth(0, warmth, storm);
        on.setGround(4, 4, ground);
        on.plant(4, 4, coral);
        return on;
    }

    /** Coral as high as its ground: it does not grow, so that a neighbour stays what it is while the month goes by. */
    private static void fullyGrown(ReefPilot on, int[] cell, int coral) {
        on.setGround(cell[0], cell[1], coral);
        on.plant(cell[0], cell[1], coral);
    }

    private static int coralBehindAMonth(ReefPilot on) {
        on.pass(1);
        return on.cell(4, 4, 1);
    }

    // ---- step 1

    /** Of the middle cell's two neighbours one or both become heads in this very month, from whichever side. */
    private static void growthByWhatWas() {
        for (int[] first : BESIDE) {
            for (int[] second : BESIDE) {
                if (first != second) {
                    Check.same("two that become heads just now", growsBeside(first, 4, second, 4), 8);
                    Check.same("a head and one that becomes one just now", growsBeside(first, 5, second, 4), 8);
                    Check.same("two that are heads", growsBeside(first, 5, second, 5), 9);
                }
            }
        }
        ReefPilot row = new ReefPilot();
        Coasts.setAllGround(row, 15);
        for (int x = 0; x < 9; x++) {
            row.plant(x, 4, x == 0 || x == 2 ? 5 : 4);
        }
        row.pass(1);
        int[] due = {6, 6, 6, 5, 5, 5, 5, 5, 5};
        for (int x = 0; x < 9; x++) {
            Check.same("coral " + x + " of a row", row.cell(x, 4, 1), due[x]);
        }
    }

    private static int growsBeside(int[] first, int firstCoral, int[] second, int secondCoral) {
        ReefPilot on = middle(5, 0, 20, 7);
        for (int[] cell : BESIDE) {
            on.setGround(cell[0], cell[1], 15);
        }
        on.plant(first[0], first[1], firstCoral);
        on.plant(second[0], second[1], secondCoral);
        return coralBehindAMonth(on);
    }

    private static void growthByWarmth() {
        int[] due = {7, 7, 7, 8, 8, 8, 8, 8, 6, 6};
        for (int warmth = 0; warmth < 10; warmth++) {
            Check.same("coral behind a warmth of " + warmth, coralBehindAMonth(middle(warmth, 0, 12, 7)), due[warmth]);
        }
        ReefPilot grown = new ReefPilot();
        grown.plant(4, 4, 5);
        Check.same("coral by the warmth at first", coralBehindAMonth(grown), 6);
    }

    private static void growthOfCoral() {
        for (int ground = 0; ground <= 20; ground++) {
            Check.same("no coral, ground " + ground, coralBehindAMonth(middle(5, 0, ground, 0)), 0);
        }
        Check.same("a coral of 1", coralBehindAMonth(middle(5, 0, 12, 1)), 2);
        Check.same("a coral of 38 on the deepest ground", coralBehindAMonth(middle(5, 0, 40, 38)), 39);
        ReefPilot all = Coasts.flat(12);
        Coasts.plantAll(all, 1);
        all.pass(1);
        for (int place = 0; place < 81; place++) {
            Check.same("the coral of each cell", all.cell(place % 9, place / 9, 1), 2);
        }
    }

    private static void growthByDepth() {
        for (int depth = 0; depth <= 20; depth++) {
            int due = depth >= 2 && depth <= 15 ? 8 : 7;
            Check.same("coral at a depth of " + depth, coralBehindAMonth(middle(5, 0, 7 + depth, 7)), due);
            ReefPilot between = middle(5, 0, 7 + depth, 7);
            for (int[] cell : BESIDE) {
                fullyGrown(between, cell, 9);
            }
            due = depth < 2 || depth > 15 ? 7 : depth == 2 ? 8 : 9;
            Check.same("coral between heads at a depth of " + depth, coralBehindAMonth(between), due);
        }
    }

    private static void growthByHeads() {
        for (int sides = 0; sides < 16; sides++) {
            ReefPilot on = middle(5, 0, 20, 7);
            for (int side = 0; side < 4; side++) {
                fullyGrown(on, BESIDE[side], (sides >> side & 1) == 1 ? 5 : 4);
            }
            int due = Integer.bitCount(sides) >= 2 ? 9 : 8;
            Check.same("coral with heads at the sides " + Integer.toBinaryString(sides), coralBehindAMonth(on), due);
        }
        ReefPilot corners = middle(5, 0, 20, 7);
        for (int[] cell : new int[][] {{3, 3}, {5, 3}, {3, 5}, {5, 5}}) {
            fullyGrown(corners, cell, 9);
        }
        Check.same("coral with heads at its corners", coralBehindAMonth(corners), 8);
        for (int[] corner : new int[][] {{0, 0}, {8, 0}, {0, 8}, {8, 8}}) {
            growthInCorner(corner[0], corner[1]);
        }
        for (int place = 0; place < 81; place++) {
            growthEverywhere(place);
        }
    }

    private static boolean isBeside(int place, int other) {
        return Math.abs(place % 9 - other % 9) + Math.abs(place / 9 - other / 9) == 1;
    }

    /** The coral of a cell grows by the heads beside it alone, be it in the middle of the coast or at its edge. */
    private static void growthEverywhere(int place) {
        for (int first = 0; first < 81; first++) {
            if (isBeside(place, first)) {
                for (int second = 0; second < 81; second++) {
                    ReefPilot on = new ReefPilot();
                    on.plant(first % 9, first / 9, 20);
                    on.plant(second % 9, second / 9, 20);
                    on.plant(place % 9, place / 9, 6);
                    on.pass(1);
                    int due = second != first && isBeside(place, second) ? 8 : 7;
                    Check.same("coral of cell " + place + " with heads in " + first + " and " + second,
                        on.cell(place % 9, place / 9, 1), due);
                }
            }
        }
    }

    /** All cells but those two beside the corner are heads; beyond the edge there is none. */
    private static void growthInCorner(int x, int y) {
        for (int headsBeside = 0; headsBeside <= 2; headsBeside++) {
            ReefPilot on = new ReefPilot();
            for (int place = 0; place < 81; place++) {
                boolean beside = isBeside(9 * y + x, place);
                boolean besideInRow = beside && place / 9 == y;
                boolean head = !beside || headsBeside == 2 || headsBeside == 1 && besideInRow;
                on.plant(place % 9, place / 9, head ? 20 : 0);
            }
            on.plant(x, y, 6);
            on.pass(1);
            Check.same("coral in the corner " + x + ", " + y + " with " + headsBeside + " heads", on.cell(x, y, 1),
                headsBeside == 2 ? 8 : 7);
        }
    }

    private static void growthBelowGround() {
        for (int ground = 0; ground <= 40; ground++) {
            for (int less = 0; less <= 3 && less <= ground; less++) {
                int coral = ground - less;
                ReefPilot on = middle(5, 0, ground, coral);
                for (int[] cell : BESIDE) {
                    fullyGrown(on, cell, 9);
                }
                // Without coral there is no growth, but a seed where the ground is fit for it.
                int due = coral == 0 ? ground == 3 ? 1 : 0 : less < 2 ? coral : ground - 1;
                Check.same("coral " + coral + " on ground " + ground, coralBehindAMonth(on), due);
            }
        }
        ReefPilot aged = middle(4, 0, 10, 1);
        aged.pass(120);
        Check.same("behind ten years", aged.cell(4, 4, 1), 9);
        aged.pass(120);
        Check.same("behind twenty", aged.cell(4, 4, 1), 9);
    }

    private static void dieBack() {
        for (int warmth = 7; warmth <= 9; warmth++) {
            for (int coral = 0; coral <= 20; coral++) {
                int due = warmth == 7 ? coral >= 5 && coral <= 18 ? coral + 1 : coral : coral == 0 ? 0 : coral - 1;
                Check.same("coral " + coral + " behind a warmth of " + warmth,
                    coralBehindAMonth(middle(warmth, 0, 20, coral)), due);
            }
        }
        for (int ground = 1; ground <= 40; ground++) {
            Check.same("the last coral on ground " + ground, coralBehindAMonth(middle(8, 0, ground, 1)), 0);
            Check.same("no coral on ground " + ground, coralBehindAMonth(middle(9, 0, ground, 0)), 0);
        }
        ReefPilot aged = new ReefPilot();
        Coasts.setAllMonths(aged, 9, 0);
        Coasts.plantAll(aged, 20);
        Check.same("19 months let no coral die to the last", aged.pass(19), -81);
        Check.same("all coral behind 19", aged.count(4), 81);
        aged.pass(1);
        Check.same("all coral behind 20", aged.count(4), 0);
        aged.pass(120);
        Check.same("all coral behind 140", aged.count(4), 0);
    }

    // ---- step 2

    private static int seededBeside(int warmth, int ground, int coral, int[] side, int coralBeside) {
        ReefPilot on = middle(warmth, 0, ground, coral);
        on.plant(side[0], side[1], coralBeside);
        return coralBehindAMonth(on);
    }

    private static void seedingBehindGrowth() {
        for (int[] side : BESIDE) {
            ReefPilot on = middle(5, 0, 10, 0);
            on.setGround(side[0], side[1], 15);
            on.plant(side[0], side[1], 4);
            Check.same("a head only behind the growth", coralBehindAMonth(on), 1);
            Check.same("a head no more behind the dying", seededBeside(8, 10, 0, side, 5), 0);
            Check.same("still a head behind the dying", seededBeside(8, 10, 0, side, 6), 1);
            Check.same("where the last coral just died", seededBeside(9, 10, 1, side, 6), 1);
            Check.same("the seed does not grow in its first month", seededBeside(5, 10, 0, side, 20), 1);
        }
        ReefPilot row = new ReefPilot();
        for (int x = 0; x < 9; x++) {
            row.setGround(x, 4, 10);
        }
        row.plant(4, 4, 9);
        row.pass(1);
        for (int x = 0; x < 9; x++) {
            int due = x == 4 ? 9 : x == 3 || x == 5 ? 1 : 0;
            Check.same("seeds do not go on from seeds, x " + x, row.cell(x, 4, 1), due);
        }
    }

    private static void seedingWithoutCoral() {
        for (int coral = 0; coral <= 10; coral++) {
            Check.same("a coral of " + coral + " beside a head", seededBeside(0, 10, coral, BESIDE[1], 20),
                coral == 0 ? 1 : coral);
        }
        for (int warmth = 0; warmth < 10; warmth++) {
            Check.same("without coral, whatever the warmth, " + warmth, seededBeside(warmth, 10, 0, BESIDE[2], 20), 1);
        }
    }

    private static void seedingByGround() {
        for (int ground = 0; ground <= 40; ground++) {
            Check.same("a seed on ground " + ground, seededBeside(0, ground, 0, BESIDE[0], 9),
                ground >= 3 && ground <= 15 ? 1 : 0);
        }
        ReefPilot rubble = middle(0, 9, 16, 0);
        rubble.plant(4, 3, 20);
        Check.same("ground of 16 that becomes 13 in the same month's storm", coralBehindAMonth(rubble), 0);
        Check.same("it became 13", rubble.cell(4, 4, 0), 13);
        rubble.setMonth(1, 0, 0);
        Check.same("a month later", coralBehindAMonth(rubble), 1);
    }

    private static void seedingByHeads() {
        for (int[] side : BESIDE) {
            Check.same("a coral of 4 beside it", seededBeside(0, 10, 0, side, 4), 0);
            Check.same("a head beside it", seededBeside(0, 10, 0, side, 5), 1);
        }
        for (int[] corner : new int[][] {{3, 3}, {5, 3}, {3, 5}, {5, 5}}) {
            Check.same("a head at its corner", seededBeside(0, 10, 0, corner, 20), 0);
        }
        ReefPilot all = middle(0, 0, 10, 0);
        for (int[] side : BESIDE) {
            all.plant(side[0], side[1], 9);
        }
        Check.same("a coral of 1, however many heads", coralBehindAMonth(all), 1);
        for (int place = 0; place < 81; place++) {
            seedsRound(place);
        }
    }

    /** A head seeds the cells beside it, up to the coast's edges and not over them. */
    private static void seedsRound(int place) {
        ReefPilot on = Coasts.flat(15);
        on.setMonth(0, 0, 0);
        on.plant(place % 9, place / 9, 9);
        on.pass(1);
        for (int other = 0; other < 81; other++) {
            int due = other == place ? 9 : isBeside(place, other) ? 1 : 0;
            Check.same("coral of cell " + other + " with a head in cell " + place, on.cell(other % 9, other / 9, 1), due);
        }
    }

    // ---- step 3

    private static void stormBehindSeeding() {
        ReefPilot grown = middle(5, 5, 20, 18);
        Check.same("a depth of 2 that growth makes 1, in storm 5", coralBehindAMonth(grown), 18);
        Check.same("its rubble", grown.cell(4, 5, 0), 19);
        ReefPilot died = middle(8, 3, 20, 20);
        Check.same("a depth of 0 that dying makes 1, in storm 3", coralBehindAMonth(died), 19);
        ReefPilot seeded = middle(0, 9, 4, 0);
        seeded.plant(4, 5, 5);
        Check.same("a seed at a depth of 3 breaks in the same storm", coralBehindAMonth(seeded), 0);
        Check.same("and is rubble", seeded.cell(4, 5, 0), 19);
        ReefPilot deeper = middle(0, 9, 5, 0);
        deeper.plant(4, 5, 5);
        Check.same("a seed at a depth of 4 does not", coralBehindAMonth(deeper), 1);
    }

    private static void stormByDepth() {
        int[] lessThan = {0, 0, 1, 1, 2, 2, 3, 3, 4, 4};
        int[] breaks = {0, 0, 0, 1, 1, 1, 2, 2, 2, 3};
        for (int storm = 0; storm < 10; storm++) {
            for (int depth = 0; depth <= 6; depth++) {
                ReefPilot on = middle(0, storm, 10 + depth, 10);
                int broken = depth < lessThan[storm] ? breaks[storm] : 0;
                Check.same("coral at a depth of " + depth + " in storm " + storm, coralBehindAMonth(on), 10 - broken);
                Check.same("its rubble, storm " + storm, on.cell(4, 5, 0), 20 - broken);
            }
        }
        Check.same("no coral, no depth", middle(0, 9, 0, 0).pass(1), 0);
        ReefPilot bare = middle(0, 9, 0, 0);
        bare.pass(1);
        Check.same("no rubble of no coral", bare.cell(4, 5, 0), 20);
    }

    private static void stormBreaks() {
        int[] breaks = {0, 0, 0, 1, 1, 1, 2, 2, 2, 3};
        for (int storm = 2; storm < 10; storm++) {
            for (int coral = 0; coral <= 5; coral++) {
                ReefPilot on = middle(0, storm, coral, coral);
                int broken = Math.min(breaks[storm], coral);
                Check.same("coral " + coral + " in storm " + storm, coralBehindAMonth(on), coral - broken);
                Check.same("rubble of coral " + coral + " in storm " + storm, on.cell(4, 5, 0), 20 - broken);
            }
        }
        ReefPilot head = middle(0, 9, 7, 7);
        Check.same("a head that breaks to 4 is none", head.pass(1), -1);
        ReefPilot again = middle(0, 9, 20, 20);
        again.setMonth(1, 0, 9);
        again.pass(1);
        Check.same("a depth of 3 breaks again", coralBehindAMonth(again), 14);
        again.setMonth(2, 0, 9);
        Check.same("a depth of 6 does not", coralBehindAMonth(again), 14);
    }

    private static void rubbleBelow() {
        ReefPilot on = middle(0, 9, 20, 20);
        on.pass(1);
        for (int place = 0; place < 81; place++) {
            Check.same("ground of cell " + place, on.cell(place % 9, place / 9, 0), place == 49 ? 17 : 20);
            Check.same("coral of cell " + place, on.cell(place % 9, place / 9, 1), place == 40 ? 17 : 0);
        }
        for (int x : new int[] {0, 8}) {
            ReefPilot edge = new ReefPilot();
            edge.setMonth(0, 0, 6);
            edge.plant(x, 0, 20);
            edge.plant(x, 7, 19);
            edge.pass(1);
            Check.same("rubble at the edge, first row", edge.cell(x, 1, 0), 18);
            Check.same("rubble at the edge, last row", edge.cell(x, 8, 0), 18);
        }
    }

    private static void rubbleAtLeast() {
        int[] atLeast0 = {0, 0, 0, 0, 1, 2};
        for (int ground = 0; ground < atLeast0.length; ground++) {
            // A coral of 4 is no head, so that nothing is seeded below it.
            ReefPilot on = middle(0, 9, 4, 4);
            on.setGround(4, 5, ground);
            on.pass(1);
            Check.same("ground of " + ground + " behind rubble of 3", on.cell(4, 5, 0), atLeast0[ground]);
            Check.same("nothing goes on from it", on.cell(4, 6, 0), 20);
        }
        ReefPilot seeded = middle(0, 9, 20, 20);
        seeded.setGround(4, 5, 3);
        seeded.pass(1);
        Check.same("ground of 3 with a seed of this month", seeded.cell(4, 5, 0), 1);
        Check.same("the seed then breaks", seeded.cell(4, 5, 1), 0);
        Check.same("and is rubble itself", seeded.cell(4, 6, 0), 19);
        for (int storm : new int[] {3, 6, 9}) {
            for (int depth = 4; depth <= 8; depth++) {
                ReefPilot on = middle(0, storm, 20, 20);
                on.setGround(4, 5, 8 + depth);
                on.plant(4, 5, 8);
                on.pass(1);
                Check.same("ground over coral with a depth of " + depth + " in storm " + storm, on.cell(4, 5, 0),
                    8 + depth - storm / 3);
            }
        }
        for (int depth = 0; depth <= 3; depth++) {
            ReefPilot on = middle(0, 9, 20, 20);
            on.setGround(4, 5, 8 + depth);
            on.plant(4, 5, 8);
            on.pass(1);
            Check.same("ground not less than the coral, depth " + depth, on.cell(4, 5, 0), 8);
            Check.same("which then breaks", on.cell(4, 5, 1), 5);
            Check.same("and is rubble", on.cell(4, 6, 0), 17);
        }
    }

    private static void rubbleLost() {
        ReefPilot on = new ReefPilot();
        on.setMonth(0, 0, 9);
        for (int x = 0; x < 9; x++) {
            on.plant(x, 8, 20 - x % 4);
        }
        on.pass(1);
        for (int place = 0; place < 81; place++) {
            Check.same("ground of cell " + place, on.cell(place % 9, place / 9, 0), 20);
        }
        for (int x = 0; x < 9; x++) {
            Check.same("coral of the last row", on.cell(x, 8, 1), 17 - x % 4);
        }
        Check.same("all coral", on.count(4), 9 * 17 - (0 + 1 + 2 + 3 + 0 + 1 + 2 + 3 + 0));
    }

    private static void rowsAboveLeftIt() {
        ReefPilot fall = new ReefPilot();
        fall.setMonth(0, 0, 9);
        fall.plant(4, 0, 20);
        for (int y = 1; y < 9; y++) {
            fall.plant(4, y, 14);
        }
        fall.pass(1);
        Check.same("the first row breaks", fall.cell(4, 0, 1), 17);
        Check.same("a depth of 6 that rubble makes 3 breaks", fall.cell(4, 1, 1), 11);
        Check.same("and so on to the last row", fall.cell(4, 8, 1), 11);
        Check.same("each with rubble from above", fall.cell(4, 8, 0), 17);
        ReefPilot stops = new ReefPilot();
        stops.setMonth(0, 0, 9);
        stops.plant(4, 0, 20);
        stops.plant(4, 1, 13);
        stops.plant(4, 2, 14);
        stops.pass(1);
        Check.same("a depth of 7 that rubble makes 4 holds", stops.cell(4, 1, 1), 13);
        Check.same("and gives no rubble", stops.cell(4, 2, 0), 20);
        Check.same("so that a depth of 6 holds too", stops.cell(4, 2, 1), 14);
        ReefPilot lower = new ReefPilot();
        lower.setMonth(0, 0, 9);
        lower.plant(4, 1, 14);
        lower.plant(4, 2, 20);
        lower.pass(1);
        Check.same("the rows below change nothing above", lower.cell(4, 1, 1), 14);
        Check.same("they break themselves", lower.cell(4, 2, 1), 17);
    }

    // ---- step 4 and promise 12

    private static void oneGreater() {
        ReefPilot on = Coasts.rich();
        int before = on.count(0);
        for (int months : new int[] {1, 2, 119, 120, 1}) {
            on.pass(months);
            before += months;
            Check.same("the month behind " + months + " more", on.count(0), before);
        }
    }

    private static void oneByOne() {
        ReefPilot atOnce = Coasts.rich();
        ReefPilot single = Coasts.rich();
        int heads = 0;
        for (int month = 0; month < 120; month++) {
            heads += single.pass(1);
        }
        Check.same("pass(120) and 120 times pass(1)", atOnce.pass(120), heads);
        Check.same("the digest behind them", atOnce.digest(), single.digest());
    }

    private static void headsMore() {
        ReefPilot on = Coasts.flat(15);
        Check.same("none before and behind", on.pass(1), 0);
        Coasts.plantAll(on, 4);
        Check.same("each cell becomes a head", on.pass(1), 81);
        Check.same("they stay heads", on.pass(1), 0);
        Coasts.setAllMonths(on, 9, 0);
        Check.same("they are heads still", on.pass(1), 0);
        Check.same("behind two more months", on.pass(2), -81);
        Check.same("there are none to be fewer", on.pass(120), 0);
        ReefPilot both = new ReefPilot();
        both.setMonth(0, 5, 9);
        both.setGround(2, 2, 15);
        both.plant(2, 2, 4);
        both.setGround(4, 4, 7);
        both.plant(4, 4, 7);
        Check.same("one more and one fewer", both.pass(1), 0);
    }

    private static void monthsToPass() {
        Boundary.bounds("pass", Boundary.ARGUMENT, 1, 120, (reef, months) -> reef.pass(months));
        Probe.refused("pass(-1)", Boundary.ARGUMENT, Coasts::rich, reef -> reef.pass(-1));
        for (int months : new int[] {1, 120}) {
            ReefPilot on = new ReefPilot();
            on.pass(months);
            Check.same("the month behind pass(" + months + ")", on.count(0), months);
        }
    }
}
