import java.io.IOException;
import java.util.function.Supplier;

/** Runs the tests of the sentences that name boundary cases, each under its promise's name and its own words. */
final class Boundary {
    static final Class<IndexOutOfBoundsException> INDEX = IndexOutOfBoundsException.class;
    static final Class<IllegalArgumentException> ARGUMENT = IllegalArgumentException.class;

    interface OneNumber {
        void on(ReefPilot reef, int number);
    }

    private final Document document;
    private int sentences;

    Boundary() throws IOException {
        document = new Document();
    }

    void of(String section, String sentence, Runnable test) {
        Check.about(section + ", \"" + sentence + "\"");
        sentences++;
        Check.yes("it stands in the document", document.says(section, sentence));
        int before = Check.done();
        try {
            test.run();
        } catch (RuntimeException thrown) {
            Check.yes("the test ends, does not throw " + thrown, false);
        }
        Check.yes("the test looks at something", Check.done() > before);
        Check.about("");
    }

    void end() {
        for (String sentence : document.withoutTest()) {
            Check.yes("a test of " + sentence, false);
        }
        System.out.println("BoundaryTest: " + sentences + " sentences");
    }

    /** From the least to the greatest each number is taken; the first ones beyond, and those far off, are refused. */
    static void bounds(String what, Class<? extends RuntimeException> due, int least, int greatest, OneNumber call) {
        bounds(what, due, Coasts::rich, least, greatest, call);
    }

    static void bounds(String what, Class<? extends RuntimeException> due, Supplier<ReefPilot> scene, int least,
        int greatest, OneNumber call) {
        for (int number = least; number <= greatest; number++) {
            int taken = number;
            Probe.taken(what + " " + taken, scene, reef -> call.on(reef, taken));
        }
        for (int refused : new int[] {least - 1, greatest + 1, Integer.MIN_VALUE, Integer.MAX_VALUE}) {
            Probe.refused(what + " " + refused, due, scene, reef -> call.on(reef, refused));
        }
    }

    interface AtCell {
        void on(ReefPilot reef, int x, int y);
    }

    /** No cell but those of the coast is taken, not even one whose 9 * y and x would be a cell's. */
    static void cellBounds(String what, AtCell call) {
        bounds(what + " x, first row,", INDEX, 0, 8, (reef, number) -> call.on(reef, number, 0));
        bounds(what + " x, last row,", INDEX, 0, 8, (reef, number) -> call.on(reef, number, 8));
        bounds(what + " y, first column,", INDEX, 0, 8, (reef, number) -> call.on(reef, 0, number));
        bounds(what + " y, last column,", INDEX, 0, 8, (reef, number) -> call.on(reef, 8, number));
        int[][] beyond = {{-1, 1}, {9, 7}, {-9, 1}, {80, 0}, {-72, 8}, {17, -1}, {9, -1}, {72, -8}, {-1, 9}, {9, 9}, {-1, -1}};
        for (int[] cell : beyond) {
            Probe.refused(what + " x " + cell[0] + ", y " + cell[1], INDEX, Coasts::rich,
                reef -> call.on(reef, cell[0], cell[1]));
        }
    }
}
