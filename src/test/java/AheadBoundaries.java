import java.math.BigInteger;
import java.util.ArrayList;
import java.util.List;

/** Promises 14 to 18: each sentence that names a boundary case. */
final class AheadBoundaries {
    private AheadBoundaries() {
    }

    static void all(Boundary boundary) {
        closesAll(boundary);
        foreseeAll(boundary);
        adviseAll(boundary);
        boundary.of("Promise 17", "Returns the mean depth of all cells.", AheadBoundaries::meanOfAll);
        boundary.of("Promise 18", "A number d starts with 787", AheadBoundaries::startsWith787);
        boundary.of("Promise 18", "for each of the following numbers x, d becomes d * 31 + x, which wraps around as a 64-bit integer",
            AheadBoundaries::wrapsAround);
        boundary.of("Promise 18", "what count() tells, in its order; for each month of the table 10 * warmth and storm; "
            + "for each cell, row by row from the open sea, its ground, its coral, and what chart() tells, in its order.",
            AheadBoundaries::inItsOrder);
    }

    private static void closesAll(Boundary boundary) {
        boundary.of("Promise 14", "Returns behind how many months there is no way for it, by the depth as it is, if nothing is done",
            AheadBoundaries::firstClosing);
        boundary.of("Promise 14", "0 if there is none now", AheadBoundaries::noneNow);
        boundary.of("Promise 14", "at most 100", AheadBoundaries::atMostHundred);
        boundary.of("Promise 14", "-1 if there is one behind each of them (nothing is changed).",
            AheadBoundaries::oneBehindEach);
        boundary.of("Promise 14", "Throws `IllegalArgumentException` if draught is not 0 to 39", () ->
            Boundary.bounds("closes", Boundary.ARGUMENT, 0, 39, (reef, draught) -> reef.closes(draught)));
    }

    private static void foreseeAll(Boundary boundary) {
        boundary.of("Promise 15", "how many, 1 to 100", AheadBoundaries::asPassTells);
        boundary.of("Promise 15", "0 heads then, 1 reefs then, 2 the greatest draught for which there is a way then, -1 for none",
            AheadBoundaries::leastAndGreatestThen);
        boundary.of("Promise 15", "Returns this, if nothing is done (nothing is changed).",
            AheadBoundaries::foreseeChangesNothing);
        boundary.of("Promise 15", "Throws `IllegalArgumentException` if months is not 1 to 100",
            AheadBoundaries::foreseeMonths);
        boundary.of("Promise 15", "Throws `IndexOutOfBoundsException` if what is not 0 to 2", AheadBoundaries::foreseeWhat);
    }

    private static void adviseAll(Boundary boundary) {
        boundary.of("Promise 16", "the one where the depth that is safe by the chart is the most greater than the depth",
            AheadBoundaries::mostGreater);
        boundary.of("Promise 16", "(0 without a sounding, in the place of what the chart says)",
            AheadBoundaries::zeroWithoutSounding);
        boundary.of("Promise 16", "of several the least 9 * y and x.", AheadBoundaries::leastOfSeveral);
        boundary.of("Promise 16", "Returns 9 * y and x; -1 if it is greater nowhere (nothing is changed).",
            AheadBoundaries::greaterNowhere);
    }

    // ---- promise 14

    /** A passage of one cell; its coral of 1 leaves a depth of 11, and 1 less with each month in which it grows. */
    private static ReefPilot passage() {
        ReefPilot on = Coasts.still();
        for (int x = 0; x < 9; x++) {
            on.setGround(x, 4, x == 4 ? 12 : 0);
        }
        on.plant(4, 4, 1);
        return on;
    }

    private static void firstClosing() {
        ReefPilot monthly = passage();
        Coasts.setAllMonths(monthly, 7, 0);
        for (int draught = 1; draught <= 11; draught++) {
            Check.same("1 less each month, draught " + draught, monthly.closes(draught), 11 - draught);
        }
        Check.same("a depth of 1 stays", monthly.closes(0), -1);
        monthly.pass(9);
        Check.same("nine months later", monthly.closes(1), 1);
        ReefPilot reopens = passage();
        reopens.setMonth(5, 3, 0);
        reopens.setMonth(6, 8, 0);
        Check.same("a way that is shut for one month", reopens.closes(10), 6);
        reopens.pass(6);
        Check.same("in that month", reopens.closes(10), 0);
        reopens.pass(1);
        Check.same("in the month behind it, a year less one", reopens.closes(10), 11);
        shutByRubble();
    }

    /** Two storms, then a seed, make the one passage less deep; the ships come to it from its left. */
    private static void shutByRubble() {
        ReefPilot on = Coasts.still();
        for (int x = 0; x < 9; x++) {
            on.setGround(x, 4, x == 3 || x == 4 ? 20 : 0);
            on.setGround(x, 5, x == 4 ? 20 : 0);
        }
        on.plant(4, 3, 20);
        on.setMonth(1, 0, 9);
        on.setMonth(2, 0, 9);
        for (int draught = 0; draught <= 20; draught++) {
            int due = draught == 20 ? 0 : draught >= 17 ? 2 : draught >= 14 ? 3 : draught == 13 ? 4 : -1;
            Check.same("rubble of 3, twice, and a seed, draught " + draught, on.closes(draught), due);
        }
    }

    private static void noneNow() {
        for (int draught = 0; draught < 40; draught++) {
            Check.same("a depth of the draught " + draught, Coasts.flat(draught).closes(draught), 0);
            Check.same("a depth of 1 more than the draught " + draught, Coasts.flat(draught + 1).closes(draught), -1);
        }
        ReefPilot opens = passage();
        opens.setMonth(0, 9, 0);
        Check.same("one opens behind a month", opens.closes(11), 0);
        opens.pass(1);
        Check.same("it is open then", opens.closes(11), -1);
    }

    /** Growth in one month of the table alone shuts the passage 1 more each year. */
    private static void atMostHundred() {
        for (int start = 0; start < 12; start += 5) {
            for (int month = 0; month < 12; month++) {
                ReefPilot on = passage();
                if (start > 0) {
                    on.pass(start);
                }
                on.setMonth(month, 5, 0);
                for (int draught = 1; draught <= 10; draught++) {
                    int due = Math.floorMod(month - start, 12) + 1 + 12 * (10 - draught);
                    Check.same("from month " + start + " on, growth in month " + month + ", draught " + draught,
                        on.closes(draught), due > 100 ? -1 : due);
                }
            }
        }
        ReefPilot on = passage();
        on.setMonth(3, 5, 0);
        Check.same("behind 100 months", on.closes(2), 100);
        on.setMonth(3, 0, 0);
        on.setMonth(4, 5, 0);
        Check.same("behind 101 months", on.closes(2), -1);
        on.pass(1);
        Check.same("a month later", on.closes(2), 100);
        on.setMonth(4, 0, 0);
        on.setMonth(3, 5, 0);
        Check.same("behind 99 months", on.closes(2), 99);
    }

    private static void oneBehindEach() {
        Check.same("a new object", new ReefPilot().closes(19), -1);
        Check.same("the deepest", Coasts.flat(40).closes(39), -1);
        for (int draught = 0; draught < 40; draught++) {
            int asked = draught;
            Probe.changesNothing("closes(" + asked + ")", Coasts::rich, reef -> reef.closes(asked));
        }
        Probe.changesNothing("closes(2) behind 100 months", AheadBoundaries::shutLate, reef -> reef.closes(2));
        Probe.changesNothing("closes(1) behind none", AheadBoundaries::shutLate, reef -> reef.closes(1));
    }

    private static ReefPilot shutLate() {
        ReefPilot on = passage();
        on.setMonth(3, 5, 0);
        return on;
    }

    // ---- promise 15

    private static void asPassTells() {
        for (int what = 0; what < 3; what++) {
            ReefPilot on = Coasts.rich();
            ReefPilot twin = Coasts.rich();
            for (int months = 1; months <= 100; months++) {
                twin.pass(1);
                int due = what == 2 ? twin.deepest(false) : twin.count(what + 1);
                Check.same("foresee(" + months + ", " + what + ")", on.foresee(months, what), due);
            }
        }
        ReefPilot late = shutLate();
        Check.same("behind 99 months", late.foresee(99, 2), 2);
        Check.same("behind 100 months", late.foresee(100, 2), 1);
        late.setMonth(3, 0, 0);
        late.setMonth(0, 5, 0);
        Check.same("behind one month", late.foresee(1, 2), 9);
        Check.same("behind two months", late.foresee(2, 2), 9);
    }

    private static void leastAndGreatestThen() {
        ReefPilot all = Coasts.flat(15);
        Check.same("no heads", all.foresee(100, 0), 0);
        Check.same("no reefs", all.foresee(100, 1), 0);
        Coasts.plantAll(all, 4);
        Check.same("all heads", all.foresee(1, 0), 81);
        Check.same("one reef", all.foresee(1, 1), 1);
        Check.same("none now", all.count(1), 0);
        ReefPilot board = Coasts.still();
        for (int place = 0; place < 81; place += 2) {
            board.plant(place % 9, place / 9, 5);
        }
        Check.same("the most reefs", board.foresee(1, 1), 41);
        board.setMonth(0, 8, 0);
        Check.same("they die back", board.foresee(1, 1), 0);
        Check.same("and their heads", board.foresee(1, 0), 0);
        Check.same("no way then", Coasts.flat(0).foresee(1, 2), -1);
        Check.same("a way for 0 alone", Coasts.flat(1).foresee(100, 2), 0);
        Check.same("the greatest draught", Coasts.flat(40).foresee(100, 2), 39);
        ReefPilot opens = passage();
        opens.setMonth(0, 8, 0);
        opens.plant(4, 4, 12);
        Check.same("no way now", opens.deepest(false), -1);
        Check.same("one for 0 then", opens.foresee(1, 2), 0);
        opens.setMonth(0, 0, 0);
        Check.same("none then", opens.foresee(1, 2), -1);
    }

    private static void foreseeChangesNothing() {
        for (int what = 0; what < 3; what++) {
            for (int months : new int[] {1, 2, 12, 99, 100}) {
                int asked = what;
                Probe.changesNothing("foresee(" + months + ", " + what + ")", Coasts::rich,
                    reef -> reef.foresee(months, asked));
            }
        }
        ReefPilot on = Coasts.rich();
        int then = on.foresee(100, 0);
        on.foresee(7, 2);
        Check.same("asked again", on.foresee(100, 0), then);
    }

    private static void foreseeMonths() {
        for (int what = 0; what < 3; what++) {
            int asked = what;
            Boundary.bounds("foresee months, what " + what, Boundary.ARGUMENT, 1, 100,
                (reef, months) -> reef.foresee(months, asked));
        }
        Probe.refused("foresee(-1, 0)", Boundary.ARGUMENT, Coasts::rich, reef -> reef.foresee(-1, 0));
    }

    private static void foreseeWhat() {
        for (int months : new int[] {1, 100}) {
            Boundary.bounds("foresee what, months " + months, Boundary.INDEX, 0, 2,
                (reef, what) -> reef.foresee(months, what));
        }
    }

    // ---- promise 16

    private static void mostGreater() {
        for (int place = 0; place < 81; place++) {
            ReefPilot on = new ReefPilot();
            Coasts.soundAll(on);
            on.setGround(place % 9, place / 9, 19);
            Check.same("1 greater in cell " + place, on.advise(), place);
        }
        ReefPilot on = Coasts.still();
        Coasts.soundAll(on);
        on.setGround(0, 0, 15);
        on.setGround(8, 8, 14);
        Check.same("6 ahead of 5", on.advise(), 80);
        on.setGround(0, 0, 0);
        Check.same("20 ahead of 6", on.advise(), 0);
        on.sound(0, 0);
        on.pass(11);
        Check.same("a safe depth of 15 over a depth of 14", on.advise(), 80);
        on.sound(3, 3);
        on.plant(3, 3, 1);
        Check.same("a newer one, as much too deep, ahead of it", on.advise(), 30);
        on.plant(3, 3, 0);
        on.pass(1);
        Check.same("a safe depth of 14 over a depth of 14", on.advise(), -1);
        on.pass(108);
        on.setGround(5, 5, 0);
        Check.same("a safe depth of 0 over a depth of 0", on.advise(), -1);
        ReefPilot greatest = new ReefPilot();
        greatest.setGround(7, 1, 40);
        greatest.sound(7, 1);
        greatest.plant(7, 1, 40);
        greatest.sound(0, 0);
        greatest.plant(0, 0, 20);
        Check.same("40 ahead of 20", greatest.advise(), 16);
    }

    private static void zeroWithoutSounding() {
        Check.same("without soundings, without depth", Coasts.flat(0).advise(), -1);
        ReefPilot on = Coasts.flat(0);
        on.setGround(8, 8, 2);
        on.sound(8, 8);
        on.plant(8, 8, 1);
        Check.same("1 greater, the others 0 over 0", on.advise(), 80);
        on.sound(8, 8);
        Check.same("sounded", on.advise(), -1);
        ReefPilot deep = new ReefPilot();
        for (int y = 0; y < 8; y++) {
            deep.sound(4, y);
        }
        for (int x = 0; x < 9; x++) {
            deep.plant(x, 8, 20);
        }
        Check.same("a row without depth and without soundings", deep.advise(), -1);
    }

    private static void leastOfSeveral() {
        ReefPilot on = new ReefPilot();
        Coasts.soundAll(on);
        for (int place = 80; place >= 0; place--) {
            on.setGround(place % 9, place / 9, 18);
            Check.same("all from cell " + place + " on", on.advise(), place);
        }
        on.setGround(8, 0, 17);
        on.setGround(0, 1, 17);
        Check.same("the row is ahead of x", on.advise(), 8);
    }

    private static void greaterNowhere() {
        Check.same("without soundings", new ReefPilot().advise(), -1);
        ReefPilot on = new ReefPilot();
        Coasts.soundAll(on);
        Check.same("as the depth is", on.advise(), -1);
        on.setGround(0, 0, 21);
        on.setGround(8, 8, 40);
        Check.same("less than the depth", on.advise(), -1);
        on.setGround(4, 8, 19);
        Check.same("greater in one cell", on.advise(), 76);
        Probe.changesNothing("advise()", Coasts::rich, reef -> reef.advise());
        Probe.changesNothing("advise() without soundings", ReefPilot::new, reef -> reef.advise());
    }

    // ---- promises 17 and 18

    private static void meanOfAll() {
        ReefPilot on = Coasts.flat(0);
        Check.same("the least", on.mean(), 0.0);
        for (int place = 0; place < 81; place++) {
            on.setGround(place % 9, place / 9, 1);
            Check.same("1 in " + (place + 1) + " cells", on.mean(), (place + 1) / 81.0);
        }
        Check.same("the greatest", Coasts.flat(40).mean(), 40.0);
        ReefPilot all = Coasts.flat(40);
        Coasts.plantAll(all, 39);
        all.plant(8, 8, 40);
        Check.same("1 in 80 cells", all.mean(), 80 / 81.0);
        all.plant(0, 0, 0);
        Check.same("the depth, not the ground", all.mean(), 119 / 81.0);
    }

    /** As the document tells it, without a bound; cut to 64 bits at the end. */
    private static long digestOf(List<Long> numbers) {
        BigInteger d = BigInteger.valueOf(787);
        for (long number : numbers) {
            d = d.multiply(BigInteger.valueOf(31)).add(BigInteger.valueOf(number));
        }
        return d.longValue();
    }

    private static List<Long> numbersOfNewObject() {
        List<Long> numbers = new ArrayList<>();
        for (int i = 0; i < 8; i++) {
            numbers.add(0L);
        }
        for (int i = 0; i < 12; i++) {
            numbers.add(40L);
        }
        for (int i = 0; i < 81; i++) {
            numbers.addAll(List.of(20L, 0L, -1L, -1L, -1L));
        }
        return numbers;
    }

    private static void startsWith787() {
        Check.same("digest of a new object", new ReefPilot().digest(), digestOf(numbersOfNewObject()));
        Check.same("digest of another one", new ReefPilot().digest(), digestOf(numbersOfNewObject()));
    }

    private static void wrapsAround() {
        ReefPilot on = new ReefPilot();
        boolean below = false;
        boolean above = false;
        for (int month = 0; month < 120; month++) {
            List<Long> due = numbersOfNewObject();
            due.set(0, (long) month);
            long digest = on.digest();
            Check.same("digest in the month " + month, digest, digestOf(due));
            below |= digest < 0;
            above |= digest > 0;
            on.pass(1);
        }
        Check.yes("it wraps around to both sides of 0", below && above);
    }

    /** Each of the numbers is changed where the document places it, and where it has the least and the greatest value. */
    private static void inItsOrder() {
        List<Long> due = numbersOfNewObject();
        ReefPilot on = new ReefPilot();
        on.setMonth(0, 0, 9);
        due.set(8, 9L);
        on.setMonth(11, 9, 0);
        due.set(19, 90L);
        on.setGround(0, 0, 0);
        due.set(20, 0L);
        on.setGround(8, 8, 40);
        due.set(20 + 5 * 80, 40L);
        due.set(7, 1L);
        Check.same("ground and table", on.digest(), digestOf(due));
        on.sound(8, 8);
        due.set(20 + 5 * 80 + 2, 40L);
        due.set(20 + 5 * 80 + 3, 0L);
        due.set(20 + 5 * 80 + 4, 40L);
        due.set(5, 1L);
        Check.same("a sounding", on.digest(), digestOf(due));
        on.pass(3);
        due.set(0, 3L);
        due.set(20 + 5 * 80 + 3, 3L);
        due.set(20 + 5 * 80 + 4, 39L);
        Check.same("three months later", on.digest(), digestOf(due));
        on.plant(8, 0, 20);
        on.plant(8, 8, 40);
        on.plant(7, 8, 5);
        due.set(20 + 5 * 8 + 1, 20L);
        due.set(20 + 5 * 80 + 1, 40L);
        due.set(20 + 5 * 79 + 1, 5L);
        due.set(1, 3L);
        due.set(2, 2L);
        due.set(3, 2L);
        due.set(4, 65L);
        due.set(6, 1L);
        due.set(7, 3L);
        Check.same("corals", on.digest(), digestOf(due));
        Probe.changesNothing("digest()", Coasts::rich, reef -> reef.digest());
    }
}
