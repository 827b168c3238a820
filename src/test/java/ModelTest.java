import java.util.Random;
import java.util.function.LongSupplier;

/** Runs of 512 calls, the digests among them, drawn by fixed seeds, on the class and on the model beside it. */
public final class ModelTest {
    private static final int RUNS = 150;
    private static final int CALLS = 512;
    private static final int[] ODD = {-1, 9, 12, 40, 41, 101, 121, Integer.MIN_VALUE, Integer.MAX_VALUE};

    private final Random draw;
    private final ReefPilot on = new ReefPilot();
    private final Model model = new Model();
    private final int deepestGround;
    private final int run;

    private ModelTest(int run) {
        this.run = run;
        draw = new Random(run);
        deepestGround = new int[] {6, 12, 16, 24, 40}[run % 5];
    }

    public static void main(String[] args) {
        for (int run = 0; run < RUNS; run++) {
            new ModelTest(run).go();
        }
        Check.end("ModelTest");
    }

    private void go() {
        int call = 0;
        if (run % 3 != 0) {
            for (int place = 0; place < 81; place++) {
                int ground = draw.nextInt(deepestGround + 1);
                int x = place % 9;
                int y = place / 9;
                same(call++, "setGround", () -> on.setGround(x, y, ground), model.setGround(x, y, ground));
            }
        }
        if (run % 2 == 1) {
            for (int place = 0; place < 81; place++) {
                int x = place % 9;
                int y = place / 9;
                same(call++, "sound", () -> on.sound(x, y), model.sound(x, y));
            }
        }
        while (call < CALLS) {
            callOne(call++);
            if (call % 16 == 15) {
                Check.same("run " + run + ", call " + call++ + ", digest", on.digest(), model.digest());
            }
        }
    }

    /** Mostly a number of the range, seldom one beside it. */
    private int number(int least, int greatest) {
        return draw.nextInt(40) == 0 ? ODD[draw.nextInt(ODD.length)] : least + draw.nextInt(greatest - least + 1);
    }

    private void same(int call, String name, LongSupplier made, long due) {
        long got;
        try {
            got = made.getAsLong();
        } catch (RuntimeException thrown) {
            got = thrown.getClass() == IndexOutOfBoundsException.class ? Model.INDEX
                : thrown.getClass() == IllegalArgumentException.class ? Model.ARGUMENT : Long.MAX_VALUE;
        }
        Check.same("run " + run + ", call " + call + ", " + name, got, due);
    }

    private void callOne(int call) {
        int x = number(0, 8);
        int y = number(0, 8);
        int draught = draw.nextBoolean() ? number(0, 39) : number(0, 6);
        boolean byChart = draw.nextBoolean();
        switch (draw.nextInt(20)) {
            case 0:
            case 1: {
                int ground = number(0, deepestGround);
                same(call, "setGround", () -> on.setGround(x, y, ground), model.setGround(x, y, ground));
                break;
            }
            case 2:
            case 3:
            case 4: {
                int coral = number(0, Math.min(deepestGround, 14));
                same(call, "plant", () -> on.plant(x, y, coral), model.plant(x, y, coral));
                break;
            }
            case 5: {
                int month = number(0, 11);
                int warmth = number(0, 9);
                int storm = number(0, 9);
                same(call, "setMonth", () -> on.setMonth(month, warmth, storm), model.setMonth(month, warmth, storm));
                break;
            }
            case 6: {
                int what = number(0, 4);
                same(call, "cell", () -> on.cell(x, y, what), model.cell(x, y, what));
                break;
            }
            case 7:
            case 8:
                same(call, "sound", () -> on.sound(x, y), model.sound(x, y));
                break;
            case 9: {
                int what = number(0, 2);
                same(call, "chart", () -> on.chart(x, y, what), model.chart(x, y, what));
                break;
            }
            case 10:
                same(call, "way", () -> on.way(draught, byChart), model.way(draught, byChart));
                break;
            case 11:
                same(call, "deepest", () -> on.deepest(byChart), model.deepest(byChart));
                break;
            case 12:
                same(call, "harbours", () -> on.harbours(draught), model.harbours(draught));
                break;
            case 13:
                same(call, "pilot", () -> on.pilot(draught), model.pilot(draught));
                break;
            case 14: {
                int months = draw.nextInt(8) == 0 ? number(1, 120) : number(1, 3);
                same(call, "pass", () -> on.pass(months), model.pass(months));
                break;
            }
            case 15: {
                int what = number(0, 7);
                same(call, "count", () -> on.count(what), model.count(what));
                break;
            }
            case 16:
                same(call, "closes", () -> on.closes(draught), model.closes(draught));
                break;
            case 17: {
                int months = number(1, draw.nextBoolean() ? 100 : 5);
                int what = number(0, 2);
                same(call, "foresee", () -> on.foresee(months, what), model.foresee(months, what));
                break;
            }
            case 18:
                same(call, "advise", () -> on.advise(), model.advise());
                break;
            default:
                Check.same("run " + run + ", call " + call + ", mean", on.mean(), model.mean());
                break;
        }
    }
}
