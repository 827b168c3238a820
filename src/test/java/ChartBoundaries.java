/** Promises 6 and 7: each sentence that names a boundary case. */
final class ChartBoundaries {
    private ChartBoundaries() {
    }

    static void all(Boundary boundary) {
        boundary.of("Promise 6", "Sounds a cell: its depth is noted on the chart, with this month.",
            ChartBoundaries::depthIsNoted);
        boundary.of("Promise 6", "Returns the sounding less the one that was on the chart; 0 if there was none.",
            ChartBoundaries::lessTheOneBefore);
        boundary.of("Promise 6", "Throws `IndexOutOfBoundsException` if x or y is not 0 to 8", () ->
            Boundary.cellBounds("sound", (reef, x, y) -> reef.sound(x, y)));
        boundary.of("Promise 7", "0 its sounding, 1 how many months old this is", ChartBoundaries::soundingAndAge);
        boundary.of("Promise 7", "(0 to 2: -1 without one)", ChartBoundaries::withoutOne);
        boundary.of("Promise 7", "2 the depth that is safe by it: the sounding less the months / 2, at least 0",
            ChartBoundaries::safeDepth);
        boundary.of("Promise 7", "Throws `IndexOutOfBoundsException` if x or y is not 0 to 8, or what is not 0 to 2",
            ChartBoundaries::chartBounds);
    }

    private static void depthIsNoted() {
        for (int place = 0; place < 81; place++) {
            ReefPilot on = Coasts.still();
            on.plant(place % 9, place / 9, 3);
            on.pass(12);
            on.sound(place % 9, place / 9);
            on.pass(5);
            for (int other = 0; other < 81; other++) {
                Check.same("sounding of " + other + " when " + place + " was sounded",
                    on.chart(other % 9, other / 9, 0), other == place ? 17 : -1);
            }
            Check.same("its age", on.chart(place % 9, place / 9, 1), 5);
            Check.same("soundings", on.count(5), 1);
        }
        ReefPilot on = new ReefPilot();
        on.plant(0, 0, 20);
        on.sound(0, 0);
        Check.same("a depth of 0 is noted", on.chart(0, 0, 0), 0);
        on.setGround(0, 0, 40);
        on.plant(0, 0, 0);
        Check.same("what is changed behind it is not", on.chart(0, 0, 0), 0);
        on.sound(0, 0);
        Check.same("a depth of 40 is noted", on.chart(0, 0, 0), 40);
    }

    private static void lessTheOneBefore() {
        ReefPilot on = Coasts.still();
        on.setGround(0, 8, 0);
        Check.same("none before, a depth of 0", on.sound(0, 8), 0);
        on.setGround(0, 8, 40);
        Check.same("a sounding of 0 before is one", on.sound(0, 8), 40);
        on.plant(0, 8, 40);
        Check.same("the most that it can be less", on.sound(0, 8), -40);
        Check.same("the same again", on.sound(0, 8), 0);
        on.plant(0, 8, 39);
        Check.same("1 more", on.sound(0, 8), 1);
        Check.same("none before, a depth of 20", on.sound(8, 0), 0);
        on.pass(120);
        Check.same("the sounding before, not the depth that was safe by it", on.sound(8, 0), 0);
    }

    private static void soundingAndAge() {
        ReefPilot on = Coasts.still();
        on.setGround(8, 8, 0);
        on.sound(8, 8);
        on.sound(0, 0);
        int age = 0;
        Check.same("a sounding of this month", on.chart(0, 0, 1), 0);
        for (int months : new int[] {1, 1, 9, 1, 1, 120, 120}) {
            on.pass(months);
            age += months;
            Check.same("the age behind " + age, on.chart(0, 0, 1), age);
            Check.same("the sounding behind " + age, on.chart(0, 0, 0), 20);
            Check.same("the age of a sounding of 0 behind " + age, on.chart(8, 8, 1), age);
            Check.same("a sounding of 0 behind " + age, on.chart(8, 8, 0), 0);
        }
        on.sound(0, 0);
        Check.same("sounded again", on.chart(0, 0, 1), 0);
        Check.same("the other one was not", on.chart(8, 8, 1), age);
    }

    private static void withoutOne() {
        ReefPilot on = Coasts.still();
        on.setGround(4, 4, 0);
        on.pass(120);
        for (int place = 0; place < 81; place++) {
            for (int what = 0; what < 3; what++) {
                Check.same("chart " + what + " of cell " + place, on.chart(place % 9, place / 9, what), -1);
            }
        }
        on.sound(4, 4);
        for (int what = 0; what < 3; what++) {
            Check.same("a sounding of 0 is one, " + what, on.chart(4, 4, what), 0);
            Check.same("the cell beside it has none, " + what, on.chart(5, 4, what), -1);
        }
    }

    private static void safeDepth() {
        for (int depth : new int[] {0, 1, 2, 20, 39, 40}) {
            ReefPilot on = Coasts.still();
            on.setGround(3, 0, depth);
            on.sound(3, 0);
            for (int months = 0; months <= 84; months++) {
                int safe = depth - (months - months % 2) / 2;
                Check.same("safe by " + depth + " behind " + months, on.chart(3, 0, 2), safe < 0 ? 0 : safe);
                on.pass(1);
            }
            on.pass(120);
            Check.same("safe by " + depth + " long behind", on.chart(3, 0, 2), 0);
        }
    }

    private static void chartBounds() {
        for (int what = 0; what < 3; what++) {
            int asked = what;
            Boundary.cellBounds("chart what " + what, (reef, x, y) -> reef.chart(x, y, asked));
        }
        Boundary.bounds("chart what, with a sounding,", Boundary.INDEX, 0, 2, (reef, what) -> reef.chart(7, 4, what));
        Boundary.bounds("chart what, without one,", Boundary.INDEX, 0, 2, (reef, what) -> reef.chart(0, 0, what));
        Probe.refused("chart(-1, 9, 3)", Boundary.INDEX, Coasts::rich, reef -> reef.chart(-1, 9, 3));
    }
}
