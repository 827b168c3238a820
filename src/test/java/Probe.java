import java.util.ArrayList;
import java.util.List;
import java.util.function.Supplier;

/**
 * Looks at an object by its other calls. Each kind of look is taken on a coast of its own, so that no object is asked
 * more than the 512 times that the document promises.
 */
enum Probe {
    CELLS {
        @Override
        void look(ReefPilot on, List<Long> told) {
            for (int place = 0; place < 81; place++) {
                for (int what = 0; what < 5; what++) {
                    told.add((long) on.cell(place % 9, place / 9, what));
                }
            }
        }
    },
    CHART_AND_COUNTS {
        @Override
        void look(ReefPilot on, List<Long> told) {
            for (int place = 0; place < 81; place++) {
                for (int what = 0; what < 3; what++) {
                    told.add((long) on.chart(place % 9, place / 9, what));
                }
            }
            for (int what = 0; what < 8; what++) {
                told.add((long) on.count(what));
            }
            told.add(on.digest());
            told.add(Double.doubleToLongBits(on.mean()));
        }
    },
    WAYS_AND_WHAT_IS_AHEAD {
        @Override
        void look(ReefPilot on, List<Long> told) {
            told.add((long) on.deepest(false));
            told.add((long) on.deepest(true));
            told.add((long) on.advise());
            for (int draught = 0; draught < 40; draught += 3) {
                told.add((long) on.way(draught, false));
                told.add((long) on.way(draught, true));
                told.add((long) on.harbours(draught));
                told.add((long) on.pilot(draught));
                told.add((long) on.closes(draught));
            }
            for (int months = 1; months <= 100; months += 11) {
                for (int what = 0; what < 3; what++) {
                    told.add((long) on.foresee(months, what));
                }
            }
        }
    },
    TABLE_AND_MONTHS_TO_COME {
        @Override
        void look(ReefPilot on, List<Long> told) {
            for (int months : new int[] {1, 2, 12, 120}) {
                told.add((long) on.pass(months));
                told.add(on.digest());
            }
            for (int month = 0; month < 12; month++) {
                told.add((long) on.setMonth(month, 0, 0));
            }
            for (int place = 0; place < 81; place++) {
                told.add((long) on.sound(place % 9, place / 9));
                told.add((long) on.plant(place % 9, place / 9, 0));
                told.add((long) on.setGround(place % 9, place / 9, 1));
            }
        }
    };

    interface Call {
        void on(ReefPilot reef);
    }

    abstract void look(ReefPilot on, List<Long> told);

    private List<Long> tellOf(ReefPilot on) {
        List<Long> told = new ArrayList<>();
        look(on, told);
        return told;
    }

    /** The call throws exactly this, and behind it the coast answers all other calls like one that was never asked. */
    static void refused(String what, Class<? extends RuntimeException> due, Supplier<ReefPilot> scene, Call call) {
        for (Probe probe : values()) {
            ReefPilot asked = scene.get();
            String thrown = thrownBy(call, asked);
            Check.yes(what + " throws " + due.getSimpleName() + ", not " + thrown, thrown.equals(due.getName()));
            sameAsSpared(what, probe, asked, scene);
        }
    }

    /** The call answers, and behind it the coast answers all other calls like one that was never asked. */
    static void changesNothing(String what, Supplier<ReefPilot> scene, Call call) {
        for (Probe probe : values()) {
            ReefPilot asked = scene.get();
            Check.yes(what + " throws nothing", thrownBy(call, asked).isEmpty());
            sameAsSpared(what, probe, asked, scene);
        }
    }

    private static void sameAsSpared(String what, Probe probe, ReefPilot asked, Supplier<ReefPilot> scene) {
        Check.yes(what + " changes nothing, looked at by " + probe, probe.tellOf(asked).equals(probe.tellOf(scene.get())));
    }

    static void taken(String what, Supplier<ReefPilot> scene, Call call) {
        String thrown = thrownBy(call, scene.get());
        Check.yes(what + " is taken, does not throw " + thrown, thrown.isEmpty());
    }

    private static String thrownBy(Call call, ReefPilot on) {
        try {
            call.on(on);
            return "";
        } catch (RuntimeException thrown) {
            return thrown.getClass().getName();
        }
    }
}
