/** Each promise of the document by hand: ordinary inputs, the edges it names, and wrong inputs. */
public final class PromisesTest {
    private static final Class<IndexOutOfBoundsException> INDEX = IndexOutOfBoundsException.class;
    private static final Class<IllegalArgumentException> ARGUMENT = IllegalArgumentException.class;
    private static final int[] BAD_CELLS = {-1, 9, Integer.MIN_VALUE, Integer.MAX_VALUE};
    private static final int[] BAD_DRAUGHTS = {-1, 40, Integer.MIN_VALUE, Integer.MAX_VALUE};

    private PromisesTest() {
    }

    public static void main(String[] args) {
        newObject();
        setGround();
        plant();
        setMonth();
        cell();
        sound();
        chart();
        way();
        wayByChart();
        deepest();
        harbours();
        pilot();
        pilotTies();
        pass();
        growth();
        dieBack();
        seeding();
        storm();
        turnOfTheTable();
        count();
        closes();
        foresee();
        advise();
        mean();
        digest();
        Check.end("PromisesTest");
    }

    // ---- promises 1 to 5

    private static void newObject() {
        ReefPilot on = new ReefPilot();
        for (int y = 0; y < 9; y++) {
            for (int x = 0; x < 9; x++) {
                Check.same("new ground", on.cell(x, y, 0), 20);
                Check.same("new coral", on.cell(x, y, 1), 0);
                Check.same("new depth", on.cell(x, y, 2), 20);
                Check.same("new head", on.cell(x, y, 3), 0);
                Check.same("new sounding", on.chart(x, y, 0), -1);
            }
        }
        Check.same("new month", on.count(0), 0);
        for (int month = 0; month < 12; month++) {
            Check.same("new table", on.setMonth(month, 4, 0), 40);
        }
        ReefPilot other = new ReefPilot();
        on.plant(0, 0, 9);
        Check.same("another object", other.cell(0, 0, 1), 0);
    }

    private static void setGround() {
        ReefPilot on = new ReefPilot();
        Check.same("setGround first cell", on.setGround(0, 0, 0), 20);
        Check.same("setGround again", on.setGround(0, 0, 40), 0);
        Check.same("setGround last cell", on.setGround(8, 8, 7), 20);
        Check.same("its ground", on.cell(8, 8, 0), 7);
        Check.same("x is across", on.setGround(8, 0, 5), 20);
        Check.same("y is along", on.cell(0, 8, 0), 20);
        Check.same("x is across, told", on.cell(8, 0, 0), 5);
        on.plant(4, 4, 12);
        on.setGround(4, 4, 12);
        Check.same("coral as high as the ground", on.cell(4, 4, 1), 12);
        on.setGround(4, 4, 11);
        Check.same("coral broken to the ground", on.cell(4, 4, 1), 11);
        on.setGround(4, 4, 30);
        Check.same("coral stays broken", on.cell(4, 4, 1), 11);
        on.setGround(4, 4, 0);
        Check.same("coral broken to nothing", on.cell(4, 4, 1), 0);
        for (int bad : BAD_CELLS) {
            Check.refuses("setGround bad x", INDEX, on, () -> on.setGround(bad, 0, 1));
            Check.refuses("setGround bad y", INDEX, on, () -> on.setGround(0, bad, 1));
            Check.refuses("setGround bad cell and ground", INDEX, on, () -> on.setGround(0, bad, 41));
        }
        for (int bad : new int[] {-1, 41, Integer.MIN_VALUE, Integer.MAX_VALUE}) {
            Check.refuses("setGround bad ground", ARGUMENT, on, () -> on.setGround(8, 8, bad));
        }
    }

    private static void plant() {
        ReefPilot on = new ReefPilot();
        Check.same("plant first cell", on.plant(0, 0, 3), 0);
        Check.same("plant again", on.plant(0, 0, 20), 3);
        Check.same("plant nothing", on.plant(0, 0, 0), 20);
        Check.same("nothing there", on.cell(0, 0, 1), 0);
        Check.same("plant last cell", on.plant(8, 8, 20), 0);
        Check.same("no depth over it", on.cell(8, 8, 2), 0);
        on.setGround(3, 5, 40);
        Check.same("plant on the deepest ground", on.plant(3, 5, 40), 0);
        on.setGround(5, 3, 0);
        Check.same("plant nothing on ground 0", on.plant(5, 3, 0), 0);
        Check.refuses("plant on ground 0", ARGUMENT, on, () -> on.plant(5, 3, 1));
        Check.refuses("plant more than the ground", ARGUMENT, on, () -> on.plant(8, 8, 21));
        Check.refuses("plant less than 0", ARGUMENT, on, () -> on.plant(8, 8, -1));
        Check.refuses("plant far too much", ARGUMENT, on, () -> on.plant(8, 8, Integer.MAX_VALUE));
        Check.refuses("plant far too little", ARGUMENT, on, () -> on.plant(8, 8, Integer.MIN_VALUE));
        for (int bad : BAD_CELLS) {
            Check.refuses("plant bad x", INDEX, on, () -> on.plant(bad, 0, 1));
            Check.refuses("plant bad y", INDEX, on, () -> on.plant(0, bad, 1));
            Check.refuses("plant bad cell and coral", INDEX, on, () -> on.plant(bad, 0, -1));
        }
    }

    private static void setMonth() {
        ReefPilot on = new ReefPilot();
        Check.same("setMonth first", on.setMonth(0, 9, 7), 40);
        Check.same("setMonth again", on.setMonth(0, 0, 9), 97);
        Check.same("setMonth a third time", on.setMonth(0, 0, 0), 9);
        Check.same("setMonth last", on.setMonth(11, 1, 2), 40);
        Check.same("setMonth last again", on.setMonth(11, 1, 2), 12);
        for (int bad : new int[] {-1, 12, Integer.MIN_VALUE, Integer.MAX_VALUE}) {
            Check.refuses("setMonth bad month", INDEX, on, () -> on.setMonth(bad, 1, 1));
            Check.refuses("setMonth bad month and warmth", INDEX, on, () -> on.setMonth(bad, 10, 10));
        }
        for (int bad : new int[] {-1, 10, Integer.MIN_VALUE, Integer.MAX_VALUE}) {
            Check.refuses("setMonth bad warmth", ARGUMENT, on, () -> on.setMonth(5, bad, 3));
            Check.refuses("setMonth bad storm", ARGUMENT, on, () -> on.setMonth(5, 3, bad));
        }
        Check.same("setMonth behind refusals", on.setMonth(5, 3, 3), 40);
    }

    private static void cell() {
        ReefPilot on = new ReefPilot();
        on.plant(2, 2, 4);
        Check.same("coral of 4 is no head", on.cell(2, 2, 3), 0);
        Check.same("no head, no reef", on.cell(2, 2, 4), 0);
        on.plant(2, 2, 5);
        Check.same("coral of 5 is a head", on.cell(2, 2, 3), 1);
        Check.same("a reef of one", on.cell(2, 2, 4), 1);
        Check.same("its depth", on.cell(2, 2, 2), 15);
        on.plant(3, 3, 5);
        Check.same("cells that touch at a corner do not hang together", on.cell(2, 2, 4), 1);
        on.plant(3, 2, 5);
        Check.same("a reef round the corner", on.cell(2, 2, 4), 3);
        Check.same("the same reef at its other end", on.cell(3, 3, 4), 3);
        on.plant(8, 4, 5);
        on.plant(0, 5, 5);
        Check.same("the edges do not hang together", on.cell(8, 4, 4), 1);
        on.plant(8, 5, 20);
        Check.same("up and down at the edge", on.cell(8, 4, 4), 2);
        Check.same("beside a reef", on.cell(4, 3, 4), 0);
        for (int y = 0; y < 9; y++) {
            for (int x = 0; x < 9; x++) {
                on.plant(x, y, 5);
            }
        }
        Check.same("one reef of all cells", on.cell(0, 0, 4), 81);
        Check.same("one reef of all cells, last", on.cell(8, 8, 4), 81);
        for (int bad : BAD_CELLS) {
            Check.refuses("cell bad x", INDEX, on, () -> on.cell(bad, 0, 0));
            Check.refuses("cell bad y", INDEX, on, () -> on.cell(0, bad, 0));
        }
        for (int bad : new int[] {-1, 5, Integer.MIN_VALUE, Integer.MAX_VALUE}) {
            Check.refuses("cell bad what", INDEX, on, () -> on.cell(0, 0, bad));
        }
    }

    // ---- promises 6 and 7

    private static void sound() {
        ReefPilot on = new ReefPilot();
        Check.same("the first sounding", on.sound(8, 8), 0);
        Check.same("it is the depth", on.chart(8, 8, 0), 20);
        on.plant(8, 8, 20);
        Check.same("less deep than before", on.sound(8, 8), -20);
        Check.same("a sounding of 0", on.chart(8, 8, 0), 0);
        on.setGround(8, 8, 40);
        Check.same("deeper than before", on.sound(8, 8), 20);
        on.plant(8, 8, 0);
        Check.same("as deep as can be", on.sound(8, 8), 20);
        Check.same("noted", on.chart(8, 8, 0), 40);
        Coasts.setAllMonths(on, 0, 0);
        on.pass(5);
        Check.same("five months old", on.chart(8, 8, 1), 5);
        Check.same("less the sounding, not what is safe by it", on.sound(8, 8), 0);
        Check.same("new again", on.chart(8, 8, 1), 0);
        Check.same("only this one", on.count(5), 1);
        for (int bad : BAD_CELLS) {
            Check.refuses("sound bad x", INDEX, on, () -> on.sound(bad, 0));
            Check.refuses("sound bad y", INDEX, on, () -> on.sound(0, bad));
        }
    }

    private static void chart() {
        ReefPilot on = new ReefPilot();
        for (int what = 0; what < 3; what++) {
            Check.same("no sounding", on.chart(0, 0, what), -1);
        }
        on.setGround(0, 0, 3);
        on.sound(0, 0);
        int[] safe = {3, 3, 2, 2, 1, 1, 0, 0, 0, 0};
        for (int month = 0; month < 10; month++) {
            Check.same("the sounding stays", on.chart(0, 0, 0), 3);
            Check.same("its age", on.chart(0, 0, 1), month);
            Check.same("the safe depth", on.chart(0, 0, 2), safe[month]);
            on.pass(1);
        }
        on.setGround(0, 0, 30);
        Check.same("the chart does not know", on.chart(0, 0, 0), 3);
        on.pass(120);
        Check.same("age behind 120 more", on.chart(0, 0, 1), 130);
        for (int bad : BAD_CELLS) {
            Check.refuses("chart bad x", INDEX, on, () -> on.chart(bad, 0, 0));
            Check.refuses("chart bad y", INDEX, on, () -> on.chart(0, bad, 0));
        }
        for (int bad : new int[] {-1, 3, Integer.MIN_VALUE, Integer.MAX_VALUE}) {
            Check.refuses("chart bad what", INDEX, on, () -> on.chart(0, 0, bad));
        }
    }

    // ---- promises 8 to 11

    private static void way() {
        ReefPilot on = new ReefPilot();
        Check.same("straight through", on.way(0, false), 9);
        Check.same("a depth of more than the draught", on.way(19, false), 9);
        Check.same("a depth of the draught", on.way(20, false), -1);
        Check.same("the greatest draught", on.way(39, false), -1);
        Coasts.setAllGround(on, 40);
        Check.same("the greatest draught on the deepest ground", on.way(39, false), 9);
        Coasts.setAllGround(on, 0);
        Check.same("no depth, no way", on.way(0, false), -1);
        ReefPilot winding = Coasts.of(
            "000000009", "099999999", "090000000", "099999990", "000000090", "099999990", "090000000", "099999990",
            "000000090");
        Check.same("a winding way", winding.way(3, false), 34);
        Check.same("too narrow for it", winding.way(9, false), -1);
        ReefPilot upwards = Coasts.of(
            "900000000", "900999990", "900900090", "900900090", "999900090", "000000090", "000000090", "000000090",
            "000000090");
        Check.same("a way that goes up again", upwards.way(0, false), 22);
        ReefPilot corners = Coasts.of(
            "090000000", "009000000", "000900000", "000090000", "000009000", "000000900", "000000090", "000000009",
            "000000009");
        Check.same("no way over corners", corners.way(0, false), -1);
        for (int bad : BAD_DRAUGHTS) {
            Check.refuses("way bad draught", ARGUMENT, on, () -> on.way(bad, false));
            Check.refuses("way by chart, bad draught", ARGUMENT, on, () -> on.way(bad, true));
        }
    }

    private static void wayByChart() {
        ReefPilot on = new ReefPilot();
        Check.same("without soundings", on.way(0, true), -1);
        for (int y = 0; y < 8; y++) {
            on.sound(8, y);
        }
        Check.same("the last cell has none", on.way(0, true), -1);
        on.sound(7, 7);
        on.sound(7, 8);
        Check.same("by the chart", on.way(19, true), 10);
        on.setGround(8, 3, 0);
        Check.same("the chart does not know yet", on.way(19, true), 10);
        on.pass(1);
        Check.same("a month is nothing", on.way(19, true), 10);
        on.pass(1);
        Check.same("two months are one less", on.way(19, true), -1);
        Check.same("two months are one less, no more", on.way(18, true), 10);
        on.pass(38);
        Check.same("40 months: nothing is safe", on.way(0, true), -1);
        Check.same("the sea is as deep as ever", on.way(19, false), 9);
    }

    private static void deepest() {
        ReefPilot on = new ReefPilot();
        Check.same("deepest", on.deepest(false), 19);
        Check.same("deepest without soundings", on.deepest(true), -1);
        Coasts.soundAll(on);
        Check.same("deepest by the chart", on.deepest(true), 19);
        for (int x = 0; x < 9; x++) {
            on.setGround(x, 4, x == 6 ? 1 : 0);
        }
        Check.same("deepest of a shallow", on.deepest(false), 0);
        Check.same("the chart does not know", on.deepest(true), 19);
        on.plant(6, 4, 1);
        Check.same("deepest of none", on.deepest(false), -1);
        on.pass(7);
        Check.same("the chart is old", on.deepest(true), 16);
        on.pass(31);
        Check.same("38 months: a depth of 1 is safe", on.deepest(true), 0);
        on.pass(2);
        Check.same("40 months: nothing is safe", on.deepest(true), -1);
        Coasts.setAllGround(on, 40);
        Check.same("deepest of all", on.deepest(false), 39);
        Coasts.soundAll(on);
        Check.same("deepest of all by the chart", on.deepest(true), 39);
    }

    private static void harbours() {
        ReefPilot on = new ReefPilot();
        Check.same("all harbours", on.harbours(19), 9);
        Check.same("no harbour", on.harbours(20), 0);
        ReefPilot some = Coasts.of(
            "000000000", ".........", "000900009", "000900009", "000900000", "000999000", "009909900", "009009900",
            "909909909");
        Check.same("a shut sea", some.harbours(0), 0);
        some.setGround(0, 0, 9);
        Check.same("two arms of a way, not what lies alone", some.harbours(0), 4);
        some.setGround(3, 4, 8);
        Check.same("a narrower passage", some.harbours(8), 0);
        Check.same("a smaller ship", some.harbours(7), 4);
        Check.same("the row 8 leads on too", Coasts.of(
            "000000009", "000000009", "000000009", "000000009", "000000009", "000000009", "000000009", "000000009",
            "099999999").harbours(8), 8);
        for (int bad : BAD_DRAUGHTS) {
            Check.refuses("harbours bad draught", ARGUMENT, on, () -> on.harbours(bad));
        }
    }

    private static void pilot() {
        ReefPilot on = new ReefPilot();
        Check.same("no way by the chart", on.pilot(0), -1);
        Coasts.soundAll(on);
        Check.same("it comes through", on.pilot(19), 81);
        Check.same("too great for the chart", on.pilot(20), -1);
        on.setGround(0, 8, 5);
        Check.same("it grounds in the last cell", on.pilot(19), 72);
        Check.same("a smaller ship comes through", on.pilot(4), 81);
        Check.same("a depth of its draught grounds it", on.pilot(5), 72);
        on.setGround(0, 0, 19);
        Check.same("it grounds in the first cell", on.pilot(19), 0);
        on.setGround(0, 0, 20);
        on.setGround(0, 3, 2);
        Check.same("it grounds in the first one on the way", on.pilot(10), 27);
        on.sound(0, 3);
        Check.same("the chart knows now", on.pilot(10), 81);
        Check.same("nothing moved the month", on.count(0), 0);
        for (int bad : BAD_DRAUGHTS) {
            Check.refuses("pilot bad draught", ARGUMENT, on, () -> on.pilot(bad));
        }
    }

    /** Grounds the cells of a charted coast one after the other and sees which way the ship went. */
    private static void pilotTies() {
        wayIs("the smallest x of the row 0", new int[] {2, 11, 20, 29, 38, 47, 56, 65, 74},
            "009000900", "009000900", "009000900", "009000900", "009000900", "009000900", "009000900", "009000900",
            "009000900");
        wayIs("left ahead of right, the way below it last", new int[] {4, 13, 12, 21, 30, 39, 40, 49, 58, 67, 76},
            "000090000", "000999000", "000909000", "000909000", "000999000", "000090000", "000090000", "000090000",
            "000090000");
        wayIs("right ahead of below", new int[] {3, 12, 13, 14, 23, 32, 41, 50, 59, 68, 77},
            "000900000", "000999000", "000909000", "000999000", "000009000", "000009000", "000009000", "000009000",
            "000009000");
        wayIs("above ahead of right", new int[] {
            0, 9, 18, 27, 36, 37, 38, 29, 30, 21, 22, 23, 32, 41, 50, 59, 68, 77},
            "900000000", "900000000", "900999000", "909909000", "999909000", "000009000", "000009000", "000009000",
            "000009000");
        wayIs("above ahead of left", new int[] {
            8, 17, 26, 35, 44, 43, 42, 33, 32, 23, 22, 21, 30, 39, 48, 57, 66, 75},
            "000000009", "000000009", "000999009", "000909909", "000909999", "000900000", "000900000", "000900000",
            "000900000");
        wayIs("left ahead of below", new int[] {5, 14, 13, 22, 31, 40, 49, 58, 67, 76},
            "000009000", "000099000", "000099000", "000090000", "000090000", "000090000", "000090000", "000090000",
            "000090000");
    }

    private static void wayIs(String what, int[] cells, String... rows) {
        for (int place : cells) {
            ReefPilot on = Coasts.of(rows);
            Coasts.soundAll(on);
            Check.same(what + ", its length", on.way(8, true), cells.length);
            Check.same(what + ", unchanged", on.pilot(8), 81);
            on.setGround(place % 9, place / 9, 8);
            Check.same(what + ", grounded", on.pilot(8), place);
        }
    }

    // ---- promise 12 and the month

    private static void pass() {
        ReefPilot on = new ReefPilot();
        on.plant(0, 0, 4);
        on.plant(8, 8, 3);
        Check.same("no depth of 2 to 15", on.pass(1), 0);
        on.setGround(0, 0, 15);
        on.setGround(8, 8, 15);
        Check.same("one head more", on.pass(1), 1);
        Check.same("another one", on.pass(1), 1);
        Check.same("none", on.pass(1), 0);
        Coasts.setAllMonths(on, 9, 0);
        Check.same("both die back", on.pass(4), -2);
        Check.same("the month", on.count(0), 8);
        Check.same("the most months", on.pass(120), 0);
        Check.same("the month behind them", on.count(0), 128);
        for (int bad : new int[] {0, -1, 121, Integer.MIN_VALUE, Integer.MAX_VALUE}) {
            Check.refuses("pass bad months", ARGUMENT, on, () -> on.pass(bad));
        }
    }

    private static int coralBehindAMonth(int warmth, int ground, int coral) {
        ReefPilot on = new ReefPilot();
        on.setMonth(0, warmth, 0);
        on.setGround(4, 4, ground);
        on.plant(4, 4, coral);
        on.pass(1);
        return on.cell(4, 4, 1);
    }

    private static void growth() {
        int[] behind = {2, 2, 2, 3, 3, 3, 3, 3, 1, 1};
        for (int warmth = 0; warmth < 10; warmth++) {
            Check.same("growth by warmth " + warmth, coralBehindAMonth(warmth, 12, 2), behind[warmth]);
        }
        Check.same("a depth of 1", coralBehindAMonth(5, 8, 7), 7);
        Check.same("a depth of 2", coralBehindAMonth(5, 8, 6), 7);
        Check.same("a depth of 15", coralBehindAMonth(5, 21, 6), 7);
        Check.same("a depth of 16", coralBehindAMonth(5, 22, 6), 6);
        Check.same("coral as high as its ground", coralBehindAMonth(5, 8, 8), 8);
        Check.same("no coral", coralBehindAMonth(5, 8, 0), 0);
        growthBetweenHeads();
        ReefPilot row = new ReefPilot();
        for (int x = 0; x < 9; x++) {
            row.setGround(x, 0, 15);
        }
        row.plant(0, 0, 5);
        row.plant(1, 0, 4);
        row.plant(2, 0, 4);
        row.plant(3, 0, 5);
        row.pass(1);
        Check.same("by the heads that were before, first", row.cell(1, 0, 1), 5);
        Check.same("by the heads that were before, second", row.cell(2, 0, 1), 5);
        row.pass(1);
        Check.same("now both have two", row.cell(1, 0, 1), 7);
        Check.same("now both have two, second", row.cell(2, 0, 1), 7);
    }

    private static void growthBetweenHeads() {
        ReefPilot on = new ReefPilot();
        on.setGround(4, 4, 12);
        on.plant(4, 4, 1);
        on.plant(3, 4, 5);
        on.pass(1);
        Check.same("one head beside it", on.cell(4, 4, 1), 2);
        on.plant(4, 3, 5);
        on.plant(3, 4, 5);
        on.pass(1);
        Check.same("two heads beside it", on.cell(4, 4, 1), 4);
        on.plant(5, 4, 5);
        on.plant(4, 5, 5);
        on.pass(1);
        Check.same("four heads beside it", on.cell(4, 4, 1), 6);
        on.plant(4, 4, 10);
        on.pass(1);
        Check.same("never higher than the ground less 1", on.cell(4, 4, 1), 11);
        on.pass(1);
        Check.same("a depth of 1 stays", on.cell(4, 4, 1), 11);
    }

    private static void dieBack() {
        Check.same("coral of 1 dies", coralBehindAMonth(8, 2, 1), 0);
        Check.same("no coral stays none", coralBehindAMonth(9, 2, 0), 0);
        Check.same("whatever the depth", coralBehindAMonth(9, 40, 7), 6);
        Check.same("without depth", coralBehindAMonth(8, 7, 7), 6);
    }

    private static int seedBehindAMonth(int warmth, int ground, int coralBeside) {
        ReefPilot on = new ReefPilot();
        on.setMonth(0, warmth, 0);
        on.setGround(4, 4, ground);
        on.setGround(4, 5, 15);
        on.plant(4, 5, coralBeside);
        on.pass(1);
        Check.same("no seed over a corner", on.cell(5, 4, 1), 0);
        return on.cell(4, 4, 1);
    }

    private static void seeding() {
        Check.same("ground of 2", seedBehindAMonth(1, 2, 9), 0);
        Check.same("ground of 3", seedBehindAMonth(1, 3, 9), 1);
        Check.same("ground of 15", seedBehindAMonth(1, 15, 9), 1);
        Check.same("ground of 16", seedBehindAMonth(1, 16, 9), 0);
        Check.same("no head beside it", seedBehindAMonth(1, 10, 4), 0);
        Check.same("a head behind the growth", seedBehindAMonth(5, 10, 4), 1);
        Check.same("a head no more behind the dying", seedBehindAMonth(8, 10, 5), 0);
        Check.same("still a head behind the dying", seedBehindAMonth(9, 10, 6), 1);
        ReefPilot on = new ReefPilot();
        on.setMonth(0, 9, 0);
        on.setGround(0, 0, 10);
        on.plant(0, 0, 1);
        on.plant(1, 0, 9);
        on.pass(1);
        Check.same("seeded where the last coral died", on.cell(0, 0, 1), 1);
        on.setMonth(1, 2, 0);
        on.plant(0, 0, 2);
        on.pass(1);
        Check.same("no seed on coral", on.cell(0, 0, 1), 2);
    }

    private static ReefPilot behindStorm(int storm, int ground, int coral) {
        ReefPilot on = new ReefPilot();
        on.setMonth(0, 0, storm);
        on.setGround(4, 4, ground);
        on.plant(4, 4, coral);
        on.pass(1);
        return on;
    }

    private static void storm() {
        int[] brokenAt0 = {0, 0, 0, 1, 1, 1, 2, 2, 2, 3};
        for (int storm = 0; storm < 10; storm++) {
            ReefPilot on = behindStorm(storm, 20, 20);
            Check.same("coral behind storm " + storm, on.cell(4, 4, 1), 20 - brokenAt0[storm]);
            Check.same("rubble behind storm " + storm, on.cell(4, 5, 0), 20 - brokenAt0[storm]);
            Check.same("the ground stays", on.cell(4, 4, 0), 20);
        }
        Check.same("a depth of 3 in storm 9", behindStorm(9, 20, 17).cell(4, 4, 1), 14);
        Check.same("a depth of 4 in storm 9", behindStorm(9, 20, 16).cell(4, 4, 1), 16);
        Check.same("a depth of 1 in storm 3", behindStorm(3, 20, 19).cell(4, 4, 1), 19);
        Check.same("less coral than breaks", behindStorm(9, 2, 2).cell(4, 4, 1), 0);
        Check.same("less rubble then", behindStorm(9, 2, 2).cell(4, 5, 0), 18);
        Check.same("nothing to break", behindStorm(9, 2, 0).cell(4, 5, 0), 20);
        rubble();
    }

    private static void rubble() {
        ReefPilot on = new ReefPilot();
        on.setMonth(0, 0, 9);
        on.plant(0, 0, 20);
        on.setGround(0, 1, 2);
        on.plant(1, 0, 20);
        on.setGround(1, 1, 9);
        on.plant(1, 1, 4);
        on.plant(2, 0, 20);
        on.setGround(2, 1, 30);
        on.plant(2, 1, 23);
        on.plant(3, 8, 20);
        on.plant(4, 0, 20);
        on.setGround(4, 1, 30);
        on.plant(4, 1, 26);
        on.plant(5, 0, 20);
        on.setGround(5, 1, 30);
        on.plant(5, 1, 29);
        on.pass(1);
        Check.same("ground at least 0", on.cell(0, 1, 0), 0);
        Check.same("rubble makes it less deep", on.cell(1, 1, 0), 6);
        Check.same("a depth of 2 breaks behind the rubble", on.cell(1, 1, 1), 1);
        Check.same("and goes on to the next row", on.cell(1, 2, 0), 17);
        Check.same("deep enough behind the rubble", on.cell(2, 1, 1), 23);
        Check.same("its ground", on.cell(2, 1, 0), 27);
        Check.same("the last row breaks", on.cell(3, 8, 1), 17);
        Check.same("its rubble is lost", on.cell(3, 8, 0), 20);
        Check.same("each row as the rows above left it", on.cell(4, 1, 1), 23);
        Check.same("and its rubble", on.cell(4, 2, 0), 17);
        Check.same("not less than its coral", on.cell(5, 1, 0), 29);
        Check.same("and it breaks there", on.cell(5, 1, 1), 26);
    }

    private static void turnOfTheTable() {
        ReefPilot on = new ReefPilot();
        Coasts.setAllMonths(on, 0, 0);
        on.setMonth(0, 5, 0);
        on.setMonth(11, 8, 0);
        on.setGround(4, 4, 15);
        on.plant(4, 4, 3);
        on.pass(1);
        Check.same("month 0", on.cell(4, 4, 1), 4);
        on.pass(10);
        Check.same("months 1 to 10", on.cell(4, 4, 1), 4);
        on.pass(1);
        Check.same("month 11", on.cell(4, 4, 1), 3);
        on.pass(1);
        Check.same("month 12 is the first again", on.cell(4, 4, 1), 4);
        on.setMonth(1, 5, 0);
        on.pass(120);
        Check.same("ten years", on.cell(4, 4, 1), 14);
    }

    // ---- promise 13

    private static void count() {
        ReefPilot on = new ReefPilot();
        int[] first = {0, 0, 0, 0, 0, 0, 0, 0};
        counts("a new object", on, first);
        on.plant(0, 0, 5);
        on.plant(1, 0, 20);
        on.plant(8, 8, 4);
        on.plant(7, 7, 6);
        on.setGround(4, 4, 0);
        on.setGround(5, 4, 0);
        counts("some coral", on, new int[] {0, 3, 2, 2, 35, 0, 0, 3});
        on.sound(0, 0);
        on.sound(4, 4);
        on.sound(7, 7);
        on.sound(7, 7);
        counts("some soundings", on, new int[] {0, 3, 2, 2, 35, 3, 0, 3});
        on.plant(0, 0, 6);
        on.plant(7, 7, 5);
        on.plant(8, 7, 7);
        on.plant(6, 7, 7);
        counts("one of them too deep", on, new int[] {0, 5, 2, 3, 49, 3, 1, 3});
        Coasts.setAllMonths(on, 0, 0);
        on.pass(60);
        counts("the sounding, not what is safe by it", on, new int[] {60, 5, 2, 3, 49, 3, 1, 3});
        for (int bad : new int[] {-1, 8, Integer.MIN_VALUE, Integer.MAX_VALUE}) {
            Check.refuses("count bad what", INDEX, on, () -> on.count(bad));
        }
        for (int place = 0; place < 81; place++) {
            on.plant(place % 9, place / 9, 0);
            if (place % 2 == 0 && on.cell(place % 9, place / 9, 0) > 0) {
                on.plant(place % 9, place / 9, 5);
            }
        }
        Check.same("the most reefs, but one without ground", on.count(2), 40);
        Check.same("each of one", on.count(3), 1);
        ReefPilot alone = new ReefPilot();
        alone.plant(0, 0, 5);
        counts("the first cell alone", alone, new int[] {0, 1, 1, 1, 5, 0, 0, 0});
        ReefPilot last = new ReefPilot();
        last.plant(8, 8, 20);
        last.sound(8, 8);
        counts("the last cell alone", last, new int[] {0, 1, 1, 1, 20, 1, 0, 1});
    }

    private static void counts(String what, ReefPilot on, int[] due) {
        for (int i = 0; i < due.length; i++) {
            Check.same(what + ": count(" + i + ")", on.count(i), due[i]);
        }
    }

    // ---- promises 14 to 18

    /** A passage of one cell with a coral of 1, that becomes 1 higher each month. */
    private static ReefPilot narrowing(int ground) {
        ReefPilot on = new ReefPilot();
        for (int x = 0; x < 9; x++) {
            on.setGround(x, 4, x == 4 ? ground : 0);
        }
        on.plant(4, 4, 1);
        return on;
    }

    private static void closes() {
        ReefPilot on = narrowing(12);
        long before = on.digest();
        Check.same("none now", on.closes(11), 0);
        Check.same("behind one month", on.closes(10), 1);
        Check.same("behind ten months", on.closes(1), 10);
        Check.same("a depth of 1 stays", on.closes(0), -1);
        Check.same("nothing is changed", on.digest(), before);
        on.pass(9);
        Check.same("one less far off", on.closes(1), 1);
        ReefPilot late = narrowing(12);
        Coasts.setAllMonths(late, 0, 0);
        late.pass(7);
        late.setMonth(11, 5, 0);
        Check.same("by the months that are to come", late.closes(10), 5);
        Check.same("by the years that are to come", late.closes(3), 89);
        late.setMonth(2, 5, 0);
        late.setMonth(11, 0, 0);
        late.setGround(4, 4, 12);
        Check.same("behind 92 months", late.closes(3), 92);
        late.pass(3);
        late.setMonth(2, 0, 0);
        late.setMonth(1, 5, 0);
        Check.same("behind 88 months", late.closes(3), 88);
        hundredMonths();
        for (int bad : BAD_DRAUGHTS) {
            Check.refuses("closes bad draught", ARGUMENT, on, () -> on.closes(bad));
        }
    }

    /** With growth in one month of the year the ninth closing comes 96 months behind the first. */
    private static void hundredMonths() {
        ReefPilot on = narrowing(12);
        Coasts.setAllMonths(on, 0, 0);
        on.setMonth(3, 5, 0);
        Check.same("behind 100 months", on.closes(2), 100);
        Check.same("behind 112 months is too far off", on.closes(1), -1);
        on.setMonth(3, 0, 0);
        on.setMonth(4, 5, 0);
        Check.same("behind 101 months is too far off", on.closes(2), -1);
        Check.same("behind 89 months", on.closes(3), 89);
    }

    private static void foresee() {
        ReefPilot on = narrowing(12);
        long before = on.digest();
        Check.same("no head yet", on.foresee(3, 0), 0);
        Check.same("a head", on.foresee(4, 0), 1);
        Check.same("a reef", on.foresee(4, 1), 1);
        Check.same("draught behind a month", on.foresee(1, 2), 9);
        Check.same("draught behind ten months", on.foresee(10, 2), 0);
        Check.same("draught behind a hundred months", on.foresee(100, 2), 0);
        Check.same("nothing is changed", on.digest(), before);
        Check.same("the months do not go by", on.count(0), 0);
        on.plant(4, 4, 12);
        Check.same("no way then", on.foresee(1, 2), -1);
        on.plant(0, 0, 20);
        on.plant(8, 8, 20);
        on.plant(8, 7, 20);
        Check.same("heads then", on.foresee(1, 0), 4);
        Check.same("reefs then", on.foresee(1, 1), 3);
        on.pass(11);
        on.setMonth(11, 9, 0);
        on.setMonth(0, 9, 9);
        Check.same("by the months that are to come", on.foresee(2, 2), 4);
        Check.refuses("foresee bad what", INDEX, on, () -> on.foresee(1, 3));
        Check.refuses("foresee what less than 0", INDEX, on, () -> on.foresee(100, -1));
        Check.refuses("foresee far too great a what", INDEX, on, () -> on.foresee(100, Integer.MAX_VALUE));
        for (int bad : new int[] {0, -1, 101, Integer.MIN_VALUE, Integer.MAX_VALUE}) {
            Check.refuses("foresee bad months", ARGUMENT, on, () -> on.foresee(bad, 0));
            Check.refuses("foresee bad months and what", ARGUMENT, on, () -> on.foresee(bad, 3));
        }
    }

    private static void advise() {
        ReefPilot on = new ReefPilot();
        Check.same("no sounding, nothing to fear", on.advise(), -1);
        Coasts.soundAll(on);
        Check.same("the chart is right", on.advise(), -1);
        on.setGround(8, 8, 19);
        long before = on.digest();
        Check.same("the last cell", on.advise(), 80);
        Check.same("nothing is changed", on.digest(), before);
        on.setGround(5, 3, 19);
        Check.same("of several the least", on.advise(), 32);
        on.setGround(2, 7, 18);
        Check.same("the most", on.advise(), 65);
        on.setGround(0, 0, 18);
        Check.same("the first cell", on.advise(), 0);
        on.sound(0, 0);
        Check.same("when it is sounded", on.advise(), 65);
        Coasts.setAllMonths(on, 0, 0);
        on.pass(1);
        Check.same("behind a month", on.advise(), 65);
        on.pass(1);
        Check.same("one deeper than safe", on.advise(), 65);
        on.pass(2);
        Check.same("by the depth that is safe, not the sounding", on.advise(), -1);
        on.plant(4, 0, 20);
        on.setGround(4, 1, 0);
        Check.same("18 over nothing, twice", on.advise(), 4);
        ReefPilot flat = new ReefPilot();
        Coasts.setAllGround(flat, 0);
        Check.same("0 without a sounding is not greater", flat.advise(), -1);
    }

    private static void mean() {
        ReefPilot on = new ReefPilot();
        Check.same("mean", on.mean(), 20.0);
        on.plant(0, 0, 20);
        Check.same("mean with a coral", on.mean(), 1600.0 / 81.0);
        on.setGround(8, 8, 21);
        Check.same("mean with the last cell", on.mean(), 1601.0 / 81.0);
        Coasts.setAllGround(on, 0);
        Check.same("mean of nothing", on.mean(), 0.0);
        Coasts.setAllGround(on, 40);
        Check.same("mean of the deepest", on.mean(), 40.0);
    }

    private static void digest() {
        ReefPilot fresh = new ReefPilot();
        Check.same("digest of a new object", fresh.digest(), digestOf(fresh));
        ReefPilot on = new ReefPilot();
        long before = on.digest();
        on.setMonth(7, 4, 1);
        Check.yes("the table changes it", on.digest() != before);
        on.setMonth(7, 4, 0);
        Check.same("and changes it back", on.digest(), before);
        on.plant(3, 4, 9);
        on.setGround(4, 3, 14);
        for (int x = 0; x < 9; x++) {
            on.sound(x, 4);
        }
        on.pass(13);
        on.plant(3, 4, 11);
        for (int month = 0; month < 12; month++) {
            on.setMonth(month, month % 10, 9 - month % 10);
        }
        long due = digestOf(on);
        Check.same("digest of a coast", on.digest(), due);
    }

    /** The digest from the other calls; it leaves the table as it was. */
    private static long digestOf(ReefPilot on) {
        long sum = 787;
        for (int what = 0; what < 8; what++) {
            sum = sum * 31 + on.count(what);
        }
        for (int month = 0; month < 12; month++) {
            int entry = on.setMonth(month, 0, 0);
            on.setMonth(month, entry / 10, entry % 10);
            sum = sum * 31 + entry;
        }
        for (int place = 0; place < 81; place++) {
            sum = sum * 31 + on.cell(place % 9, place / 9, 0);
            sum = sum * 31 + on.cell(place % 9, place / 9, 1);
            for (int what = 0; what < 3; what++) {
                sum = sum * 31 + on.chart(place % 9, place / 9, what);
            }
        }
        return sum;
    }
}
