/** Coasts to test on, and what is done to all their cells or months at once. */
final class Coasts {
    private Coasts() {
    }

    /** A coast with the depths that a map tells: a letter or digit for a cell, '.' for the depth as it was. */
    static ReefPilot of(String... rows) {
        ReefPilot made = new ReefPilot();
        for (int y = 0; y < 9; y++) {
            for (int x = 0; x < 9; x++) {
                char sign = rows[y].charAt(x);
                if (sign != '.') {
                    made.setGround(x, y, Character.digit(sign, 36));
                }
            }
        }
        return made;
    }

    /** A coast that is as deep everywhere. */
    static ReefPilot flat(int ground) {
        ReefPilot made = new ReefPilot();
        setAllGround(made, ground);
        return made;
    }

    /** A coast on which no warmth and no storm changes anything. */
    static ReefPilot still() {
        ReefPilot made = new ReefPilot();
        setAllMonths(made, 0, 0);
        return made;
    }

    /**
     * Something of everything, made by some 90 calls: an unlike table, a month that is not 0, reefs, cells without
     * depth, and soundings of several ages, some of them wrong, along a way by the chart and beside it.
     */
    static ReefPilot rich() {
        ReefPilot made = new ReefPilot();
        for (int month = 0; month < 12; month++) {
            made.setMonth(month, (3 + 4 * month) % 10, 7 * month % 10);
        }
        for (int x = 0; x < 7; x++) {
            made.setGround(x, 2, 4 + 3 * x);
            made.plant(x, 2, 4);
            made.setGround(x, 5, 9);
            made.plant(x, 5, x);
        }
        made.setGround(2, 7, 0);
        made.setGround(6, 8, 40);
        made.plant(0, 8, 20);
        for (int y = 0; y < 9; y++) {
            made.sound(7, y);
        }
        made.sound(3, 2);
        made.pass(14);
        for (int y = 0; y < 9; y++) {
            made.sound(8, y);
        }
        made.sound(0, 5);
        made.plant(0, 0, 20);
        made.plant(8, 4, 13);
        made.plant(8, 5, 6);
        return made;
    }

    static void soundAll(ReefPilot on) {
        for (int y = 0; y < 9; y++) {
            for (int x = 0; x < 9; x++) {
                on.sound(x, y);
            }
        }
    }

    static void setAllMonths(ReefPilot on, int warmth, int storm) {
        for (int month = 0; month < 12; month++) {
            on.setMonth(month, warmth, storm);
        }
    }

    static void setAllGround(ReefPilot on, int ground) {
        for (int y = 0; y < 9; y++) {
            for (int x = 0; x < 9; x++) {
                on.setGround(x, y, ground);
            }
        }
    }

    static void plantAll(ReefPilot on, int coral) {
        for (int y = 0; y < 9; y++) {
            for (int x = 0; x < 9; x++) {
                on.plant(x, y, coral);
            }
        }
    }
}
