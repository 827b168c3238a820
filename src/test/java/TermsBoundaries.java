/** The sentences of 'Terms' that name a boundary case, but for the month's four steps; and the last promised call. */
final class TermsBoundaries {
    private TermsBoundaries() {
    }

    static void all(Boundary boundary) {
        boundary.of("What it is", "An object is used for at most 512 calls after it has been made",
            TermsBoundaries::lastPromisedCall);
        boundary.of("Terms", "All numbers are whole, and / is cut towards 0.", TermsBoundaries::cutTowardsZero);
        boundary.of("Terms", "Time is told in months, from 0.", TermsBoundaries::monthsFromZero);
        boundary.of("Terms", "It is 9 cells wide and 9 high", TermsBoundaries::nineByNine);
        boundary.of("Terms", "x is 0 to 8, y is 0 (the open sea) to 8 (the shore).", TermsBoundaries::seaAndShore);
        boundary.of("Terms", "Each cell has a ground, 0 to 40 deep (20, at first)", TermsBoundaries::ground);
        boundary.of("Terms", "and coral on it, 0 to 40 high (0, at first)", TermsBoundaries::coral);
        boundary.of("Terms", "its depth is the ground less the coral, but at least 0.", TermsBoundaries::depth);
        boundary.of("Terms", "Neighbours are the cells to the left, to the right, above and below.",
            TermsBoundaries::neighbours);
        boundary.of("Terms", "A cell is a head, if its coral is 5 or more.", TermsBoundaries::head);
        boundary.of("Terms", "A reef is as many heads as hang together (by neighbours).", TermsBoundaries::reef);
        boundary.of("Terms", "A table tells for each of 12 months warmth, 0 to 9 (4, at first), and a storm, 0 to 9 (0, at first).",
            TermsBoundaries::table);
        boundary.of("Terms", "Each cell has a sounding, 0 to 40, with the month in which it was taken, or none.",
            TermsBoundaries::sounding);
        boundary.of("Terms", "A ship with a draught d can be in a cell with a depth of more than d.",
            TermsBoundaries::moreThanTheDraught);
        boundary.of("Terms", "A way goes from a cell of the row 0 to one of the row 8, from neighbour to neighbour.",
            TermsBoundaries::fromRowToRow);
        boundary.of("Terms", "A method that throws an exception changes nothing.", TermsBoundaries::thrownChangesNothing);
        boundary.of("Terms", "If several exceptions apply, the one that is named first is thrown.",
            TermsBoundaries::firstNamed);
    }

    private static void lastPromisedCall() {
        ReefPilot on = new ReefPilot();
        for (int call = 1; call < 512; call++) {
            on.pass(120);
        }
        Check.same("count(0), the 512th call", on.count(0), 511 * 120);
        ReefPilot charted = new ReefPilot();
        charted.sound(8, 8);
        for (int call = 2; call < 511; call++) {
            charted.pass(120);
        }
        Check.same("chart(8, 8, 1), the 511th call", charted.chart(8, 8, 1), 509 * 120);
        Check.same("chart(8, 8, 2), the 512th call", charted.chart(8, 8, 2), 0);
        ReefPilot dear = new ReefPilot();
        for (int call = 1; call < 512; call++) {
            dear.foresee(100, 2);
        }
        Check.same("closes(19), the 512th call", dear.closes(19), -1);
    }

    private static void cutTowardsZero() {
        int[] lessByAge = {0, 0, 1, 1, 2, 2, 3, 3, 4, 4, 5};
        ReefPilot on = new ReefPilot();
        on.sound(0, 0);
        for (int months = 0; months < lessByAge.length; months++) {
            Check.same("months / 2, safe behind " + months, on.chart(0, 0, 2), 20 - lessByAge[months]);
            on.pass(1);
        }
        int[] half = {0, 0, 1, 1, 2, 2, 3, 3, 4, 4};
        int[] third = {0, 0, 0, 1, 1, 1, 2, 2, 2, 3};
        for (int storm = 0; storm < 10; storm++) {
            ReefPilot struck = new ReefPilot();
            struck.setMonth(0, 0, storm);
            for (int depth = 0; depth < 6; depth++) {
                struck.plant(depth, 3, 20 - depth);
            }
            struck.pass(1);
            for (int depth = 0; depth < 6; depth++) {
                Check.same("storm " + storm + " / 2 and / 3, at a depth of " + depth, struck.cell(depth, 3, 1),
                    20 - depth - (depth < half[storm] ? third[storm] : 0));
            }
        }
    }

    private static void monthsFromZero() {
        ReefPilot on = new ReefPilot();
        Check.same("count(0) at first", on.count(0), 0);
        on.sound(4, 4);
        Check.same("the age of a sounding of the month 0, in it", on.chart(4, 4, 1), 0);
        Check.same("what was due in the month 0 of the table", on.setMonth(0, 9, 0), 40);
        on.plant(3, 3, 1);
        on.pass(1);
        Check.same("count(0) behind one month", on.count(0), 1);
        Check.same("the month 0 of the table was the first one", on.cell(3, 3, 1), 0);
        Check.same("the age of a sounding of the month 0, in the month 1", on.chart(4, 4, 1), 1);
    }

    private static void nineByNine() {
        for (int place = 0; place < 81; place++) {
            ReefPilot on = new ReefPilot();
            on.setGround(place % 9, place / 9, 7);
            for (int other = 0; other < 81; other++) {
                Check.same("ground of cell " + other + " when cell " + place + " is set",
                    on.cell(other % 9, other / 9, 0), other == place ? 7 : 20);
            }
        }
        for (int bad : new int[] {-1, 9}) {
            Probe.refused("x " + bad, Boundary.INDEX, Coasts::rich, reef -> reef.setGround(bad, 4, 7));
            Probe.refused("y " + bad, Boundary.INDEX, Coasts::rich, reef -> reef.setGround(4, bad, 7));
        }
    }

    private static void seaAndShore() {
        for (int line : new int[] {0, 8}) {
            ReefPilot rowShut = new ReefPilot();
            ReefPilot columnShut = new ReefPilot();
            for (int at = 0; at < 9; at++) {
                rowShut.setGround(at, line, 0);
                columnShut.setGround(line, at, 0);
            }
            Check.same("a way with the row " + line + " shut", rowShut.way(0, false), -1);
            Check.same("harbours with the row " + line + " shut", rowShut.harbours(0), 0);
            Check.same("a way with the column " + line + " shut", columnShut.way(0, false), 9);
            Check.same("harbours with the column " + line + " shut", columnShut.harbours(0), 8);
        }
    }

    private static void ground() {
        ReefPilot on = new ReefPilot();
        for (int ground = 0; ground <= 40; ground++) {
            Check.same("the ground before " + ground, on.setGround(8, 0, ground), ground == 0 ? 20 : ground - 1);
            Check.same("a ground of " + ground, on.cell(8, 0, 0), ground);
            Check.same("a depth of " + ground, on.cell(8, 0, 2), ground);
        }
        Check.same("another cell's", on.cell(0, 8, 0), 20);
        for (int bad : new int[] {-1, 41}) {
            Probe.refused("ground " + bad, Boundary.ARGUMENT, Coasts::rich, reef -> reef.setGround(8, 0, bad));
        }
    }

    private static void coral() {
        ReefPilot on = new ReefPilot();
        on.setGround(0, 8, 40);
        for (int coral = 0; coral <= 40; coral++) {
            Check.same("the coral before " + coral, on.plant(0, 8, coral), coral == 0 ? 0 : coral - 1);
            Check.same("a coral of " + coral, on.cell(0, 8, 1), coral);
        }
        Check.same("another cell's", on.cell(8, 0, 1), 0);
        for (int bad : new int[] {-1, 41}) {
            Check.refuses("coral " + bad, Boundary.ARGUMENT, on, () -> on.plant(0, 8, bad));
            Check.same("the coral behind it", on.cell(0, 8, 1), 40);
        }
    }

    private static void depth() {
        for (int ground = 0; ground <= 40; ground++) {
            ReefPilot on = new ReefPilot();
            on.setGround(5, 6, ground);
            for (int coral = 0; coral <= ground; coral++) {
                on.plant(5, 6, coral);
                Check.same("depth, ground " + ground + " less coral " + coral, on.cell(5, 6, 2), ground - coral);
            }
        }
        ReefPilot broken = new ReefPilot();
        broken.plant(1, 1, 20);
        broken.setGround(1, 1, 19);
        Check.same("depth where the ground was set above the coral", broken.cell(1, 1, 2), 0);
        broken.setGround(1, 1, 0);
        Check.same("depth of nothing", broken.cell(1, 1, 2), 0);
        ReefPilot buried = new ReefPilot();
        buried.setMonth(0, 0, 9);
        buried.plant(4, 0, 20);
        buried.setGround(4, 1, 1);
        buried.pass(1);
        Check.same("depth under more rubble than it has", buried.cell(4, 1, 2), 0);
    }

    private static void neighbours() {
        for (int place = 0; place < 81; place++) {
            ReefPilot on = new ReefPilot();
            int x = place % 9;
            int y = place / 9;
            on.plant(x, y, 5);
            for (int other = 0; other < 81; other++) {
                if (other != place) {
                    int away = Math.abs(other % 9 - x) + Math.abs(other / 9 - y);
                    on.plant(other % 9, other / 9, 5);
                    Check.same("the reef of " + place + " with " + other, on.cell(x, y, 4), away == 1 ? 2 : 1);
                    on.plant(other % 9, other / 9, 0);
                }
            }
        }
    }

    private static void head() {
        ReefPilot on = new ReefPilot();
        on.setGround(0, 0, 40);
        for (int coral = 0; coral <= 40; coral++) {
            on.plant(0, 0, coral);
            Check.same("a head with coral " + coral, on.cell(0, 0, 3), coral >= 5 ? 1 : 0);
            Check.same("heads of its reef with coral " + coral, on.cell(0, 0, 4), coral >= 5 ? 1 : 0);
            Check.same("heads counted with coral " + coral, on.count(1), coral >= 5 ? 1 : 0);
        }
    }

    private static void reef() {
        ReefPilot row = new ReefPilot();
        for (int x = 0; x < 9; x++) {
            row.plant(x, 0, 5);
            Check.same("heads of a row, first cell", row.cell(0, 0, 4), x + 1);
            Check.same("heads of a row, last cell", row.cell(x, 0, 4), x + 1);
        }
        row.plant(0, 1, 5);
        Check.same("the row's end does not go on in the next row's beginning", row.cell(8, 0, 4), 10);
        row.plant(0, 1, 4);
        row.plant(0, 2, 5);
        Check.same("a coral of 4 does not hang together", row.cell(0, 2, 4), 1);
        row.plant(0, 1, 5);
        Check.same("a coral of 5 joins", row.cell(0, 2, 4), 11);
        row.plant(4, 0, 4);
        Check.same("parted, the left part", row.cell(0, 2, 4), 6);
        Check.same("parted, the right part", row.cell(8, 0, 4), 4);
        ReefPilot ring = new ReefPilot();
        for (int place = 0; place < 81; place++) {
            int x = place % 9;
            int y = place / 9;
            ring.plant(x, y, x == 0 || x == 8 || y == 0 || y == 8 || x == 4 && y == 4 ? 5 : 0);
        }
        Check.same("a ring along the edge", ring.cell(0, 4, 4), 32);
        Check.same("a head within it", ring.cell(4, 4, 4), 1);
        Check.same("water within it", ring.cell(1, 1, 4), 0);
        ReefPilot all = new ReefPilot();
        Coasts.plantAll(all, 5);
        for (int place = 0; place < 81; place++) {
            Check.same("all heads hang together", all.cell(place % 9, place / 9, 4), 81);
        }
    }

    private static void table() {
        for (int month = 0; month < 12; month++) {
            ReefPilot on = new ReefPilot();
            int before = 40;
            for (int entry = 0; entry < 100; entry++) {
                Check.same("month " + month + " before " + entry, on.setMonth(month, entry / 10, entry % 10), before);
                before = entry;
            }
            for (int other = 0; other < 12; other++) {
                Check.same("month " + other + ", when " + month + " was set", on.setMonth(other, 4, 0),
                    other == month ? 99 : 40);
            }
        }
        for (int bad : new int[] {-1, 12}) {
            Probe.refused("month " + bad, Boundary.INDEX, Coasts::rich, reef -> reef.setMonth(bad, 1, 1));
        }
        for (int bad : new int[] {-1, 10}) {
            Probe.refused("warmth " + bad, Boundary.ARGUMENT, Coasts::rich, reef -> reef.setMonth(11, bad, 1));
            Probe.refused("storm " + bad, Boundary.ARGUMENT, Coasts::rich, reef -> reef.setMonth(11, 1, bad));
        }
        for (int month = 0; month < 12; month++) {
            growsInOneMonthAlone(month);
        }
    }

    /** The month 12 is the first of the table again, the month 24 too. */
    private static void growsInOneMonthAlone(int month) {
        ReefPilot on = Coasts.still();
        on.setMonth(month, 4, 0);
        on.plant(4, 4, 6);
        int coral = 6;
        for (int now = 0; now < 36; now++) {
            on.pass(1);
            coral += now % 12 == month ? 1 : 0;
            Check.same("coral behind the month " + now + ", when it grows in " + month, on.cell(4, 4, 1), coral);
        }
    }

    private static void sounding() {
        ReefPilot on = Coasts.still();
        Check.same("none at first", on.chart(2, 6, 0), -1);
        for (int depth = 0; depth <= 40; depth++) {
            on.setGround(2, 6, depth);
            on.sound(2, 6);
            Check.same("a sounding of " + depth, on.chart(2, 6, 0), depth);
            Check.same("none in another cell", on.chart(6, 2, 0), -1);
        }
        for (int month = 0; month < 5; month++) {
            on.sound(month, 0);
            on.pass(1);
        }
        for (int month = 0; month < 5; month++) {
            Check.same("a sounding of the month " + month, on.chart(month, 0, 1), 5 - month);
        }
        on.sound(0, 0);
        Check.same("taken again", on.chart(0, 0, 1), 0);
        Check.same("the others were not", on.chart(1, 0, 1), 4);
    }

    private static void moreThanTheDraught() {
        for (int draught = 0; draught < 40; draught++) {
            ReefPilot on = Coasts.flat(draught);
            Check.same("a depth of the draught " + draught, on.way(draught, false), -1);
            for (int y = 0; y < 9; y++) {
                on.setGround(4, y, draught + 1);
            }
            Check.same("a depth of 1 more than the draught " + draught, on.way(draught, false), 9);
            on.plant(4, 7, 1);
            Check.same("a coral of 1 in the way of the draught " + draught, on.way(draught, false), -1);
        }
    }

    private static void fromRowToRow() {
        for (int x = 0; x < 9; x++) {
            ReefPilot on = Coasts.flat(0);
            for (int y = 0; y < 9; y++) {
                Check.same("a way in column " + x + " before row " + y, on.way(0, false), -1);
                on.setGround(x, y, 1);
            }
            Check.same("a way in column " + x, on.way(0, false), 9);
            for (int y = 0; y < 9; y++) {
                on.setGround(x, y, 0);
                Check.same("a way in column " + x + " without row " + y, on.way(0, false), -1);
                on.setGround(x, y, 1);
            }
        }
        noWay("down over corners", "100000000", "010000000", "001000000", "000100000", "000010000", "000001000",
            "000000100", "000000010", "000000001");
        noWay("from a row's end to the next one's beginning", "000000001", "000000001", "000000001", "000000001",
            "100000000", "100000000", "100000000", "100000000", "100000000");
        noWay("from a row's beginning to the end of the one above", "100000000", "100000000", "100000000", "100000000",
            "100000001", "000000001", "000000001", "000000001", "000000001");
        noWay("out to the sea and in at the shore", "111111111", "111111111", "000000000", "000000000", "000000000",
            "000000000", "000000000", "111111111", "111111111");
    }

    private static void noWay(String what, String... rows) {
        ReefPilot on = Coasts.of(rows);
        Check.same(what + ", by the depth", on.way(0, false), -1);
        Check.same(what + ", harbours", on.harbours(0), 0);
        Coasts.soundAll(on);
        Check.same(what + ", by the chart", on.way(0, true), -1);
    }

    /** Of each exception of each method one call, the other numbers of which would have changed something. */
    private static void thrownChangesNothing() {
        Probe.refused("setGround(9, 5, 1)", Boundary.INDEX, Coasts::rich, reef -> reef.setGround(9, 5, 1));
        Probe.refused("setGround(4, 5, 41)", Boundary.ARGUMENT, Coasts::rich, reef -> reef.setGround(4, 5, 41));
        Probe.refused("plant(4, 9, 1)", Boundary.INDEX, Coasts::rich, reef -> reef.plant(4, 9, 1));
        Probe.refused("plant(4, 5, 10)", Boundary.ARGUMENT, Coasts::rich, reef -> reef.plant(4, 5, 10));
        Probe.refused("setMonth(12, 9, 9)", Boundary.INDEX, Coasts::rich, reef -> reef.setMonth(12, 9, 9));
        Probe.refused("setMonth(2, 9, 10)", Boundary.ARGUMENT, Coasts::rich, reef -> reef.setMonth(2, 9, 10));
        Probe.refused("setMonth(2, 10, 9)", Boundary.ARGUMENT, Coasts::rich, reef -> reef.setMonth(2, 10, 9));
        Probe.refused("cell(4, 4, 5)", Boundary.INDEX, Coasts::rich, reef -> reef.cell(4, 4, 5));
        Probe.refused("sound(9, 4)", Boundary.INDEX, Coasts::rich, reef -> reef.sound(9, 4));
        Probe.refused("chart(4, 4, 3)", Boundary.INDEX, Coasts::rich, reef -> reef.chart(4, 4, 3));
        Probe.refused("way(40, true)", Boundary.ARGUMENT, Coasts::rich, reef -> reef.way(40, true));
        Probe.refused("harbours(40)", Boundary.ARGUMENT, Coasts::rich, reef -> reef.harbours(40));
        Probe.refused("pilot(40)", Boundary.ARGUMENT, Coasts::rich, reef -> reef.pilot(40));
        Probe.refused("pass(121)", Boundary.ARGUMENT, Coasts::rich, reef -> reef.pass(121));
        Probe.refused("count(8)", Boundary.INDEX, Coasts::rich, reef -> reef.count(8));
        Probe.refused("closes(40)", Boundary.ARGUMENT, Coasts::rich, reef -> reef.closes(40));
        Probe.refused("foresee(101, 0)", Boundary.ARGUMENT, Coasts::rich, reef -> reef.foresee(101, 0));
        Probe.refused("foresee(50, 3)", Boundary.INDEX, Coasts::rich, reef -> reef.foresee(50, 3));
    }

    private static void firstNamed() {
        int[][] cells = {{-1, 0}, {9, 0}, {0, -1}, {0, 9}};
        for (int[] cell : cells) {
            for (int number : new int[] {-1, 41, Integer.MIN_VALUE, Integer.MAX_VALUE}) {
                String at = "(" + cell[0] + ", " + cell[1] + ", " + number + ")";
                Probe.refused("setGround" + at, Boundary.INDEX, Coasts::rich,
                    reef -> reef.setGround(cell[0], cell[1], number));
                Probe.refused("plant" + at, Boundary.INDEX, Coasts::rich, reef -> reef.plant(cell[0], cell[1], number));
            }
        }
        for (int month : new int[] {-1, 12}) {
            for (int bad : new int[] {-1, 10}) {
                String at = "setMonth(" + month + ", " + bad;
                Probe.refused(at + ", 1)", Boundary.INDEX, Coasts::rich, reef -> reef.setMonth(month, bad, 1));
                Probe.refused(at + " as the storm)", Boundary.INDEX, Coasts::rich, reef -> reef.setMonth(month, 1, bad));
                Probe.refused(at + " twice)", Boundary.INDEX, Coasts::rich, reef -> reef.setMonth(month, bad, bad));
            }
        }
        for (int months : new int[] {0, 101, Integer.MIN_VALUE, Integer.MAX_VALUE}) {
            for (int what : new int[] {-1, 3, Integer.MIN_VALUE, Integer.MAX_VALUE}) {
                Probe.refused("foresee(" + months + ", " + what + ")", Boundary.ARGUMENT, Coasts::rich,
                    reef -> reef.foresee(months, what));
            }
        }
    }
}
