/** Promises 1 to 5: each sentence that names a boundary case. */
final class CoastBoundaries {
    private CoastBoundaries() {
    }

    static void all(Boundary boundary) {
        boundary.of("Promise 1", "Creates a coast without corals and soundings, in the month 0.",
            CoastBoundaries::newObject);
        boundary.of("Promise 2", "its ground from now on; coral higher than this is broken to it",
            CoastBoundaries::brokenToGround);
        boundary.of("Promise 2", "Returns its ground before.", CoastBoundaries::groundBefore);
        boundary.of("Promise 2", "Throws `IndexOutOfBoundsException` if x or y is not 0 to 8", () ->
            Boundary.cellBounds("setGround", (reef, x, y) -> reef.setGround(x, y, 3)));
        boundary.of("Promise 2", "Throws `IllegalArgumentException` if ground is not 0 to 40",
            CoastBoundaries::groundBounds);
        boundary.of("Promise 3", "how high it is from now on", CoastBoundaries::fromNowOn);
        boundary.of("Promise 3", "Returns how high it was.", CoastBoundaries::coralBefore);
        boundary.of("Promise 3", "Throws `IndexOutOfBoundsException` if x or y is not 0 to 8", () ->
            Boundary.cellBounds("plant", (reef, x, y) -> reef.plant(x, y, 0)));
        boundary.of("Promise 3", "Throws `IllegalArgumentException` if coral is less than 0, or more than its ground",
            CoastBoundaries::coralBounds);
        boundary.of("Promise 4", "a month of the table, 0 to 11", CoastBoundaries::monthsOfTheTable);
        boundary.of("Promise 4", "Returns 10 * the warmth and the storm before.", CoastBoundaries::entryBefore);
        boundary.of("Promise 4", "Throws `IndexOutOfBoundsException` if month is not 0 to 11", () ->
            Boundary.bounds("setMonth", Boundary.INDEX, 0, 11, (reef, month) -> reef.setMonth(month, 9, 9)));
        boundary.of("Promise 4", "Throws `IllegalArgumentException` if warmth or storm is not 0 to 9",
            CoastBoundaries::warmthAndStormBounds);
        boundary.of("Promise 5", "0 its ground, 1 its coral, 2 its depth", CoastBoundaries::groundCoralDepth);
        boundary.of("Promise 5", "3 1 if it is a head, else 0", CoastBoundaries::oneIfHead);
        boundary.of("Promise 5", "4 the heads of its reef, 0 if it is none", CoastBoundaries::headsOfItsReef);
        boundary.of("Promise 5", "Throws `IndexOutOfBoundsException` if x or y is not 0 to 8, or what is not 0 to 4",
            CoastBoundaries::cellBounds);
    }

    // ---- promise 1

    private static void newObject() {
        ReefPilot used = Coasts.rich();
        ReefPilot on = new ReefPilot();
        Check.same("the month", on.count(0), 0);
        Check.same("all coral", on.count(4), 0);
        Check.same("soundings", on.count(5), 0);
        for (int place = 0; place < 81; place++) {
            Check.same("coral of cell " + place, on.cell(place % 9, place / 9, 1), 0);
            for (int what = 0; what < 3; what++) {
                Check.same("chart of cell " + place, on.chart(place % 9, place / 9, what), -1);
            }
        }
        Check.same("the month of the one used before it", used.count(0), 14);
        used.pass(120);
        Check.same("the month, while another object's goes on", on.count(0), 0);
    }

    // ---- promise 2

    private static void brokenToGround() {
        for (int coral = 0; coral <= 40; coral++) {
            ReefPilot on = new ReefPilot();
            for (int ground = 0; ground <= 40; ground++) {
                on.setGround(1, 7, 40);
                on.plant(1, 7, coral);
                on.setGround(1, 7, ground);
                Check.same("coral " + coral + " on ground " + ground, on.cell(1, 7, 1), Math.min(coral, ground));
                Check.same("its ground", on.cell(1, 7, 0), ground);
            }
        }
        ReefPilot again = new ReefPilot();
        again.plant(1, 7, 20);
        again.setGround(1, 7, 19);
        again.setGround(1, 7, 40);
        Check.same("coral broken to 19 stays so on deeper ground", again.cell(1, 7, 1), 19);
        Check.same("nothing became rubble", again.cell(1, 8, 0), 20);
    }

    private static void groundBefore() {
        for (int place = 0; place < 81; place++) {
            ReefPilot on = new ReefPilot();
            int x = place % 9;
            int y = place / 9;
            Check.same("at first, cell " + place, on.setGround(x, y, 0), 20);
            Check.same("0, cell " + place, on.setGround(x, y, 40), 0);
            Check.same("40, cell " + place, on.setGround(x, y, 40), 40);
            on.plant(x, y, 40);
            Check.same("the ground, not the depth over it, cell " + place, on.setGround(x, y, 1), 40);
        }
        ReefPilot rubble = new ReefPilot();
        rubble.setMonth(0, 0, 9);
        rubble.plant(3, 3, 20);
        rubble.pass(1);
        Check.same("the ground that rubble left", rubble.setGround(3, 4, 20), 17);
    }

    private static void groundBounds() {
        Boundary.bounds("setGround", Boundary.ARGUMENT, 0, 40, (reef, ground) -> reef.setGround(0, 0, ground));
        Boundary.bounds("setGround", Boundary.ARGUMENT, 0, 40, (reef, ground) -> reef.setGround(8, 8, ground));
    }

    // ---- promise 3

    private static void fromNowOn() {
        for (int place = 0; place < 81; place++) {
            ReefPilot on = new ReefPilot();
            on.plant(place % 9, place / 9, 20);
            for (int other = 0; other < 81; other++) {
                Check.same("coral of cell " + other + " when cell " + place + " is planted",
                    on.cell(other % 9, other / 9, 1), other == place ? 20 : 0);
            }
            on.plant(place % 9, place / 9, 0);
            Check.same("coral of cell " + place + ", set to 0", on.cell(place % 9, place / 9, 1), 0);
        }
    }

    private static void coralBefore() {
        ReefPilot on = new ReefPilot();
        on.setGround(8, 1, 40);
        Check.same("at first", on.plant(8, 1, 40), 0);
        Check.same("the highest", on.plant(8, 1, 0), 40);
        Check.same("none again", on.plant(8, 1, 12), 0);
        on.setGround(8, 1, 11);
        Check.same("what the ground broke it to", on.plant(8, 1, 3), 11);
        on.pass(1);
        Check.same("what it grew to", on.plant(8, 1, 4), 4);
    }

    private static void coralBounds() {
        for (int ground = 0; ground <= 40; ground++) {
            ReefPilot on = new ReefPilot();
            on.setGround(2, 8, ground);
            for (int coral = 0; coral <= ground; coral++) {
                on.plant(2, 8, coral);
                Check.same("coral " + coral + " on ground " + ground, on.cell(2, 8, 1), coral);
            }
            for (int bad : new int[] {-1, ground + 1, 41, Integer.MIN_VALUE, Integer.MAX_VALUE}) {
                Check.refuses("plant " + bad + " on ground " + ground, Boundary.ARGUMENT, on, () -> on.plant(2, 8, bad));
                Check.same("coral behind plant " + bad, on.cell(2, 8, 1), ground);
            }
        }
        Boundary.bounds("plant", Boundary.ARGUMENT, 0, 20, (reef, coral) -> reef.plant(4, 4, coral));
        Boundary.bounds("plant where the ground is 0,", Boundary.ARGUMENT, 0, 0, (reef, coral) -> reef.plant(2, 7, coral));
        Boundary.bounds("plant where the ground is 40,", Boundary.ARGUMENT, 0, 40, (reef, coral) -> reef.plant(6, 8, coral));
        // The depth is 0 there, but the ground is what counts.
        Boundary.bounds("plant where the coral is 20,", Boundary.ARGUMENT, 0, 20, (reef, coral) -> reef.plant(0, 0, coral));
        ReefPilot rubble = new ReefPilot();
        rubble.setMonth(0, 0, 9);
        rubble.plant(3, 3, 20);
        rubble.pass(1);
        Check.refuses("plant 18 on what rubble made 17", Boundary.ARGUMENT, rubble, () -> rubble.plant(3, 4, 18));
        Check.same("plant 17", rubble.plant(3, 4, 17), 0);
    }

    // ---- promise 4

    private static void monthsOfTheTable() {
        for (int month : new int[] {0, 11}) {
            ReefPilot on = Coasts.still();
            on.setMonth(month, 9, 0);
            on.plant(0, 0, 7);
            on.pass(12);
            Check.same("the month " + month + " of the table counts once a year", on.cell(0, 0, 1), 6);
            on.pass(12);
            Check.same("and again the year behind it", on.cell(0, 0, 1), 5);
        }
    }

    private static void entryBefore() {
        ReefPilot on = new ReefPilot();
        Check.same("at first", on.setMonth(6, 0, 0), 40);
        Check.same("the least", on.setMonth(6, 9, 9), 0);
        Check.same("the greatest", on.setMonth(6, 9, 0), 99);
        Check.same("warmth alone", on.setMonth(6, 0, 9), 90);
        Check.same("storm alone", on.setMonth(6, 1, 8), 9);
        Check.same("both", on.setMonth(6, 1, 8), 18);
        on.pass(12);
        Check.same("behind a year", on.setMonth(6, 1, 8), 18);
        Check.same("the months beside it", on.setMonth(5, 4, 0) + on.setMonth(7, 4, 0), 80);
    }

    private static void warmthAndStormBounds() {
        for (int month : new int[] {0, 11}) {
            Boundary.bounds("setMonth " + month + ", warmth", Boundary.ARGUMENT, 0, 9,
                (reef, warmth) -> reef.setMonth(month, warmth, 5));
            Boundary.bounds("setMonth " + month + ", storm", Boundary.ARGUMENT, 0, 9,
                (reef, storm) -> reef.setMonth(month, 5, storm));
        }
        for (int[] bad : new int[][] {{-1, 10}, {10, -1}, {10, 10}, {-1, -1}}) {
            Probe.refused("setMonth(5, " + bad[0] + ", " + bad[1] + ")", Boundary.ARGUMENT, Coasts::rich,
                reef -> reef.setMonth(5, bad[0], bad[1]));
        }
        ReefPilot on = new ReefPilot();
        on.setMonth(5, 6, 7);
        Check.refuses("setMonth(5, 1, 10)", Boundary.ARGUMENT, on, () -> on.setMonth(5, 1, 10));
        Check.refuses("setMonth(5, 10, 1)", Boundary.ARGUMENT, on, () -> on.setMonth(5, 10, 1));
        Check.same("the entry behind them", on.setMonth(5, 0, 0), 67);
    }

    // ---- promise 5

    private static void groundCoralDepth() {
        ReefPilot on = new ReefPilot();
        answers("at first", on, 20, 0, 20);
        on.setGround(8, 8, 40);
        answers("the greatest depth", on, 40, 0, 40);
        on.plant(8, 8, 40);
        answers("the least depth", on, 40, 40, 0);
        on.plant(8, 8, 1);
        answers("a coral of 1", on, 40, 1, 39);
        on.setGround(8, 8, 0);
        answers("no ground", on, 0, 0, 0);
    }

    private static void answers(String what, ReefPilot on, int ground, int coral, int depth) {
        Check.same(what + ", ground", on.cell(8, 8, 0), ground);
        Check.same(what + ", coral", on.cell(8, 8, 1), coral);
        Check.same(what + ", depth", on.cell(8, 8, 2), depth);
    }

    private static void oneIfHead() {
        ReefPilot on = new ReefPilot();
        for (int coral = 0; coral <= 20; coral++) {
            on.plant(8, 0, coral);
            Check.same("with a coral of " + coral, on.cell(8, 0, 3), coral < 5 ? 0 : 1);
        }
        on.setGround(8, 0, 5);
        Check.same("broken to 5", on.cell(8, 0, 3), 1);
        on.setGround(8, 0, 4);
        Check.same("broken to 4", on.cell(8, 0, 3), 0);
    }

    private static void headsOfItsReef() {
        ReefPilot on = new ReefPilot();
        Check.same("without coral", on.cell(4, 4, 4), 0);
        on.plant(4, 4, 4);
        on.plant(4, 3, 5);
        Check.same("none, though it is beside one", on.cell(4, 4, 4), 0);
        Check.same("alone", on.cell(4, 3, 4), 1);
        on.plant(4, 4, 5);
        Check.same("two", on.cell(4, 4, 4), 2);
        on.plant(6, 4, 5);
        Check.same("not those of another reef", on.cell(4, 4, 4), 2);
        Check.same("that other reef", on.cell(6, 4, 4), 1);
        ReefPilot snake = new ReefPilot();
        int heads = 0;
        for (int y = 0; y < 9; y++) {
            for (int x = 0; x < 9; x++) {
                boolean in = y % 2 == 0 || x == (y % 4 == 1 ? 8 : 0);
                snake.plant(x, y, in ? 5 : 4);
                heads += in ? 1 : 0;
            }
        }
        Check.same("the longest snake, at its head", snake.cell(0, 0, 4), heads);
        Check.same("the longest snake, at its tail", snake.cell(8, 8, 4), heads);
        Check.same("beside it", snake.cell(0, 1, 4), 0);
    }

    private static void cellBounds() {
        for (int what = 0; what < 5; what++) {
            int asked = what;
            Boundary.cellBounds("cell what " + what, (reef, x, y) -> reef.cell(x, y, asked));
        }
        Boundary.bounds("cell what", Boundary.INDEX, 0, 4, (reef, what) -> reef.cell(0, 0, what));
        Boundary.bounds("cell what", Boundary.INDEX, 0, 4, (reef, what) -> reef.cell(8, 8, what));
        Probe.refused("cell(9, -1, 5)", Boundary.INDEX, Coasts::rich, reef -> reef.cell(9, -1, 5));
    }
}
