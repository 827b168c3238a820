import java.lang.management.ManagementFactory;
import java.util.function.IntConsumer;

/**
 * All calls of one run live in one room. The class makes its rows in the constructor alone, so calls of whatever kind,
 * and as dear as they can be, leave next to nothing behind: what 512 calls leave room for when the coast is made.
 */
public final class RoomTest {
    /** Some four hundred bytes a call would be seen; what the measuring itself leaves is far below. */
    private static final long BYTES = 100_000;
    private static final int CALLS = 512 - 3 * 81;

    private RoomTest() {
    }

    public static void main(String[] args) {
        com.sun.management.ThreadMXBean threads = (com.sun.management.ThreadMXBean) ManagementFactory.getThreadMXBean();
        threads.getCurrentThreadAllocatedBytes();
        kind(threads, "setGround", turn -> turn.on.setGround(4, 4, turn.call % 41));
        kind(threads, "plant", turn -> turn.on.plant(turn.call % 9, 3, turn.call % 12));
        kind(threads, "setMonth", turn -> turn.on.setMonth(turn.call % 12, 4, turn.call % 10));
        kind(threads, "cell", turn -> turn.on.cell(4, 0, 4));
        kind(threads, "sound", turn -> turn.on.sound(4, 5));
        kind(threads, "chart", turn -> turn.on.chart(4, 5, 2));
        kind(threads, "way", turn -> turn.on.way(1, turn.call % 2 == 0));
        kind(threads, "deepest", turn -> turn.on.deepest(turn.call % 2 == 0));
        kind(threads, "harbours", turn -> turn.on.harbours(1));
        kind(threads, "pilot", turn -> turn.on.pilot(1));
        kind(threads, "pass", turn -> turn.on.pass(120));
        kind(threads, "count", turn -> turn.on.count(turn.call % 8));
        kind(threads, "closes", turn -> turn.on.closes(0));
        kind(threads, "foresee", turn -> turn.on.foresee(100, 2));
        kind(threads, "advise", turn -> turn.on.advise());
        kind(threads, "mean", turn -> turn.on.mean());
        kind(threads, "digest", turn -> turn.on.digest());
        Check.end("RoomTest");
    }

    private static final class Turn {
        final ReefPilot on = new ReefPilot();
        int call;

        Turn() {
            for (int place = 0; place < 81; place++) {
                on.setGround(place % 9, place / 9, 12 + place % 7);
                on.plant(place % 9, place / 9, place % 5 + 2);
                on.sound(place % 9, place / 9);
            }
        }
    }

    private interface Kind {
        void once(Turn turn);
    }

    private static void kind(com.sun.management.ThreadMXBean threads, String name, Kind kind) {
        Turn turn = new Turn();
        IntConsumer calls = count -> {
            for (int i = 0; i < count; i++) {
                turn.call++;
                kind.once(turn);
            }
        };
        calls.accept(1);
        long before = threads.getCurrentThreadAllocatedBytes();
        calls.accept(CALLS - 1);
        long left = threads.getCurrentThreadAllocatedBytes() - before;
        Check.yes(CALLS + " calls of " + name + " left " + left + " bytes", left < BYTES);
    }
}
