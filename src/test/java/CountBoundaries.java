/** Promise 13: each sentence that names a boundary case. */
final class CountBoundaries {
    private CountBoundaries() {
    }

    static void all(Boundary boundary) {
        boundary.of("Promise 13", "0 the month", CountBoundaries::month);
        boundary.of("Promise 13", "1 heads", CountBoundaries::heads);
        boundary.of("Promise 13", "2 reefs", CountBoundaries::reefs);
        boundary.of("Promise 13", "3 the heads of the largest reef", CountBoundaries::largestReef);
        boundary.of("Promise 13", "4 all coral, added", CountBoundaries::allCoral);
        boundary.of("Promise 13", "5 soundings on the chart", CountBoundaries::soundings);
        boundary.of("Promise 13", "6 soundings that are more than the depth now", CountBoundaries::soundingsTooDeep);
        boundary.of("Promise 13", "7 cells with a depth of 0", CountBoundaries::withoutDepth);
        boundary.of("Promise 13", "Throws `IndexOutOfBoundsException` if what is not 0 to 7", () ->
            Boundary.bounds("count", Boundary.INDEX, 0, 7, (reef, what) -> reef.count(what)));
    }

    private static void month() {
        ReefPilot on = new ReefPilot();
        Check.same("at first", on.count(0), 0);
        on.closes(0);
        on.foresee(100, 0);
        Check.same("looking ahead lets none go by", on.count(0), 0);
        for (int month = 1; month <= 25; month++) {
            on.pass(1);
            Check.same("behind one more", on.count(0), month);
        }
    }

    private static void heads() {
        ReefPilot on = new ReefPilot();
        Check.same("none", on.count(1), 0);
        for (int place = 0; place < 81; place++) {
            on.plant(place % 9, place / 9, 4);
            Check.same("with a coral of 4", on.count(1), place);
            on.plant(place % 9, place / 9, 5);
            Check.same("with a coral of 5", on.count(1), place + 1);
        }
    }

    /** Every second cell, like the black or the white fields of a board. */
    private static ReefPilot board(int from) {
        ReefPilot on = new ReefPilot();
        for (int place = from; place < 81; place += 2) {
            on.plant(place % 9, place / 9, 5);
        }
        return on;
    }

    private static void reefs() {
        Check.same("none", new ReefPilot().count(2), 0);
        ReefPilot most = board(0);
        Check.same("the most", most.count(2), 41);
        Check.same("the other board", board(1).count(2), 40);
        most.plant(1, 0, 4);
        Check.same("a coral of 4 joins none", most.count(2), 41);
        most.plant(1, 0, 5);
        Check.same("a head joins three", most.count(2), 39);
        most.plant(4, 3, 5);
        Check.same("a head joins four", most.count(2), 36);
        Coasts.plantAll(most, 5);
        Check.same("all are one", most.count(2), 1);
        most.plant(4, 4, 4);
        Check.same("a hole does not part it", most.count(2), 1);
        for (int x = 0; x < 9; x++) {
            most.plant(x, 4, 0);
        }
        Check.same("parted", most.count(2), 2);
    }

    private static void largestReef() {
        Check.same("none", new ReefPilot().count(3), 0);
        Check.same("each of one", board(0).count(3), 1);
        ReefPilot on = new ReefPilot();
        on.plant(0, 0, 20);
        Check.same("one", on.count(3), 1);
        on.plant(7, 8, 5);
        on.plant(8, 8, 5);
        Check.same("the last is the largest", on.count(3), 2);
        on.plant(0, 1, 5);
        Check.same("two as large", on.count(3), 2);
        on.plant(1, 0, 5);
        Check.same("the first is the largest", on.count(3), 3);
        Coasts.plantAll(on, 5);
        Check.same("all", on.count(3), 81);
        for (int x = 0; x < 9; x++) {
            on.plant(x, 3, 4);
        }
        Check.same("parted", on.count(3), 45);
    }

    private static void allCoral() {
        ReefPilot on = Coasts.flat(40);
        Check.same("none", on.count(4), 0);
        Coasts.plantAll(on, 1);
        Check.same("1 each", on.count(4), 81);
        Coasts.plantAll(on, 40);
        Check.same("the most", on.count(4), 3240);
        on.plant(8, 8, 39);
        Check.same("1 less", on.count(4), 3239);
        on.setGround(0, 0, 0);
        Check.same("one broken to nothing", on.count(4), 3199);
    }

    private static void soundings() {
        ReefPilot on = new ReefPilot();
        on.setGround(8, 8, 0);
        Check.same("none", on.count(5), 0);
        for (int place = 80; place >= 0; place--) {
            on.sound(place % 9, place / 9);
            Check.same("one more, of whatever depth", on.count(5), 81 - place);
        }
        on.sound(4, 4);
        Check.same("sounded again", on.count(5), 81);
        on.pass(120);
        Check.same("however old", on.count(5), 81);
    }

    private static void soundingsTooDeep() {
        ReefPilot on = Coasts.still();
        Check.same("without soundings", on.count(6), 0);
        on.setGround(3, 3, 0);
        Check.same("no sounding is not more than a depth of 0", on.count(6), 0);
        Coasts.soundAll(on);
        Check.same("as much as the depth", on.count(6), 0);
        on.plant(0, 0, 1);
        Check.same("1 more than the depth", on.count(6), 1);
        on.setGround(8, 8, 19);
        Check.same("the last cell too", on.count(6), 2);
        on.setGround(0, 0, 21);
        Check.same("as deep again", on.count(6), 1);
        on.setGround(0, 0, 40);
        Check.same("less than the depth", on.count(6), 1);
        on.setGround(3, 3, 1);
        Check.same("a sounding of 0", on.count(6), 1);
        on.pass(120);
        Check.same("the sounding, not the depth that is safe by it", on.count(6), 1);
        on.sound(8, 8);
        Check.same("sounded again", on.count(6), 0);
        ReefPilot all = new ReefPilot();
        Coasts.soundAll(all);
        Coasts.plantAll(all, 1);
        Check.same("all", all.count(6), 81);
    }

    private static void withoutDepth() {
        ReefPilot on = new ReefPilot();
        Check.same("none", on.count(7), 0);
        for (int place = 0; place < 81; place++) {
            on.plant(place % 9, place / 9, 19);
            Check.same("a depth of 1", on.count(7), place);
            on.plant(place % 9, place / 9, 20);
            Check.same("a depth of 0", on.count(7), place + 1);
        }
        Check.same("without ground", Coasts.flat(0).count(7), 81);
    }
}
