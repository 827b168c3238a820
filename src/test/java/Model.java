import java.util.ArrayDeque;
import java.util.ArrayList;
import java.util.HashSet;
import java.util.List;
import java.util.Set;

/** The document once more, word for word and without thought of speed, for comparing: it answers by making new coasts. */
final class Model {
    static final long INDEX = Long.MIN_VALUE;
    static final long ARGUMENT = Long.MIN_VALUE + 1;

    int[][] ground = new int[9][9];
    int[][] coral = new int[9][9];
    int[][] sounding = new int[9][9];
    int[][] soundedIn = new int[9][9];
    int[] warmth = new int[12];
    int[] storm = new int[12];
    int month;

    Model() {
        for (int y = 0; y < 9; y++) {
            for (int x = 0; x < 9; x++) {
                ground[y][x] = 20;
                sounding[y][x] = -1;
            }
        }
        for (int i = 0; i < 12; i++) {
            warmth[i] = 4;
        }
    }

    private Model copy() {
        Model other = new Model();
        for (int y = 0; y < 9; y++) {
            other.ground[y] = ground[y].clone();
            other.coral[y] = coral[y].clone();
        }
        other.warmth = warmth.clone();
        other.storm = storm.clone();
        other.month = month;
        return other;
    }

    private static boolean isCell(int x, int y) {
        return x >= 0 && x <= 8 && y >= 0 && y <= 8;
    }

    private int depth(int x, int y) {
        int depth = ground[y][x] - coral[y][x];
        return depth < 0 ? 0 : depth;
    }

    private boolean head(int x, int y) {
        return coral[y][x] >= 5;
    }

    /** As {x, y} in the order above, left, right, below. */
    private static List<int[]> neighbours(int x, int y) {
        List<int[]> found = new ArrayList<>();
        for (int[] to : new int[][] {{x, y - 1}, {x - 1, y}, {x + 1, y}, {x, y + 1}}) {
            if (isCell(to[0], to[1])) {
                found.add(to);
            }
        }
        return found;
    }

    long setGround(int x, int y, int newGround) {
        if (!isCell(x, y)) {
            return INDEX;
        }
        if (newGround < 0 || newGround > 40) {
            return ARGUMENT;
        }
        int before = ground[y][x];
        ground[y][x] = newGround;
        if (coral[y][x] > newGround) {
            coral[y][x] = newGround;
        }
        return before;
    }

    long plant(int x, int y, int newCoral) {
        if (!isCell(x, y)) {
            return INDEX;
        }
        if (newCoral < 0 || newCoral > ground[y][x]) {
            return ARGUMENT;
        }
        int before = coral[y][x];
        coral[y][x] = newCoral;
        return before;
    }

    long setMonth(int of, int newWarmth, int newStorm) {
        if (of < 0 || of > 11) {
            return INDEX;
        }
        if (newWarmth < 0 || newWarmth > 9 || newStorm < 0 || newStorm > 9) {
            return ARGUMENT;
        }
        int before = 10 * warmth[of] + storm[of];
        warmth[of] = newWarmth;
        storm[of] = newStorm;
        return before;
    }

    long cell(int x, int y, int what) {
        if (!isCell(x, y) || what < 0 || what > 4) {
            return INDEX;
        }
        return new int[] {ground[y][x], coral[y][x], depth(x, y), head(x, y) ? 1 : 0, reef(x, y, new HashSet<>())}[what];
    }

    private int reef(int x, int y, Set<Integer> seen) {
        if (!head(x, y) || !seen.add(9 * y + x)) {
            return 0;
        }
        int heads = 1;
        for (int[] to : neighbours(x, y)) {
            heads += reef(to[0], to[1], seen);
        }
        return heads;
    }

    private List<Integer> reefs() {
        List<Integer> found = new ArrayList<>();
        Set<Integer> seen = new HashSet<>();
        for (int place = 0; place < 81; place++) {
            int heads = reef(place % 9, place / 9, seen);
            if (heads > 0) {
                found.add(heads);
            }
        }
        return found;
    }

    long sound(int x, int y) {
        if (!isCell(x, y)) {
            return INDEX;
        }
        int before = sounding[y][x];
        sounding[y][x] = depth(x, y);
        soundedIn[y][x] = month;
        return before == -1 ? 0 : sounding[y][x] - before;
    }

    long chart(int x, int y, int what) {
        if (!isCell(x, y) || what < 0 || what > 2) {
            return INDEX;
        }
        if (sounding[y][x] == -1) {
            return -1;
        }
        int age = month - soundedIn[y][x];
        int safe = sounding[y][x] - age / 2;
        return new int[] {sounding[y][x], age, safe < 0 ? 0 : safe}[what];
    }

    private boolean mayPass(int x, int y, int draught, boolean byChart) {
        return byChart ? sounding[y][x] != -1 && chart(x, y, 2) > draught : depth(x, y) > draught;
    }

    /** Cells of the shortest way to the row, from each cell; 1000 where there is none. Lowered until it rests. */
    private int[][] far(int draught, boolean byChart, int row) {
        int[][] far = new int[9][9];
        for (int[] line : far) {
            java.util.Arrays.fill(line, 1000);
        }
        boolean changed = true;
        while (changed) {
            changed = false;
            for (int place = 80; place >= 0; place--) {
                int x = place % 9;
                int y = place / 9;
                if (!mayPass(x, y, draught, byChart)) {
                    continue;
                }
                int least = y == row ? 1 : 1000;
                for (int[] to : neighbours(x, y)) {
                    least = Math.min(least, far[to[1]][to[0]] + 1);
                }
                if (least < far[y][x]) {
                    far[y][x] = least;
                    changed = true;
                }
            }
        }
        return far;
    }

    private int shortest(int draught, boolean byChart) {
        int least = 1000;
        for (int steps : far(draught, byChart, 8)[0]) {
            least = Math.min(least, steps);
        }
        return least == 1000 ? -1 : least;
    }

    long way(int draught, boolean byChart) {
        if (draught < 0 || draught > 39) {
            return ARGUMENT;
        }
        return shortest(draught, byChart);
    }

    long deepest(boolean byChart) {
        int greatest = -1;
        for (int draught = 0; draught <= 39; draught++) {
            if (shortest(draught, byChart) != -1) {
                greatest = draught;
            }
        }
        return greatest;
    }

    long harbours(int draught) {
        if (draught < 0 || draught > 39) {
            return ARGUMENT;
        }
        int found = 0;
        for (int steps : far(draught, false, 0)[8]) {
            if (steps < 1000) {
                found++;
            }
        }
        return found;
    }

    long pilot(int draught) {
        if (draught < 0 || draught > 39) {
            return ARGUMENT;
        }
        int least = shortest(draught, true);
        if (least == -1) {
            return -1;
        }
        int[][] far = far(draught, true, 8);
        int x = 0;
        while (far[0][x] != least) {
            x++;
        }
        int y = 0;
        ArrayDeque<int[]> way = new ArrayDeque<>();
        way.add(new int[] {x, y});
        while (y != 8) {
            int[] best = null;
            for (int[] to : neighbours(x, y)) {
                if (best == null || far[to[1]][to[0]] < far[best[1]][best[0]]) {
                    best = to;
                }
            }
            x = best[0];
            y = best[1];
            way.add(best);
        }
        for (int[] at : way) {
            if (depth(at[0], at[1]) <= draught) {
                return 9 * at[1] + at[0];
            }
        }
        return 81;
    }

    private void monthGoes() {
        grow();
        seed();
        breakAll();
        month++;
    }

    private int headsBeside(int x, int y) {
        int found = 0;
        for (int[] to : neighbours(x, y)) {
            if (head(to[0], to[1])) {
                found++;
            }
        }
        return found;
    }

    private void grow() {
        int warm = warmth[month % 12];
        int[][] then = new int[9][9];
        for (int y = 0; y < 9; y++) {
            for (int x = 0; x < 9; x++) {
                then[y][x] = coral[y][x];
                if (warm >= 3 && warm <= 7 && coral[y][x] > 0 && depth(x, y) >= 2 && depth(x, y) <= 15) {
                    then[y][x]++;
                    if (headsBeside(x, y) >= 2) {
                        then[y][x]++;
                    }
                    if (then[y][x] > ground[y][x] - 1) {
                        then[y][x] = ground[y][x] - 1;
                    }
                }
                if ((warm == 8 || warm == 9) && coral[y][x] > 0) {
                    then[y][x]--;
                }
            }
        }
        coral = then;
    }

    private void seed() {
        int[][] then = new int[9][9];
        for (int y = 0; y < 9; y++) {
            for (int x = 0; x < 9; x++) {
                boolean seeded = coral[y][x] == 0 && ground[y][x] >= 3 && ground[y][x] <= 15 && headsBeside(x, y) >= 1;
                then[y][x] = seeded ? 1 : coral[y][x];
            }
        }
        coral = then;
    }

    private void breakAll() {
        int strength = storm[month % 12];
        for (int y = 0; y < 9; y++) {
            for (int x = 0; x < 9; x++) {
                if (coral[y][x] > 0 && depth(x, y) < strength / 2) {
                    int broken = strength / 3;
                    if (broken > coral[y][x]) {
                        broken = coral[y][x];
                    }
                    coral[y][x] -= broken;
                    if (y < 8) {
                        int less = ground[y + 1][x] - broken;
                        less = less < 0 ? 0 : less;
                        ground[y + 1][x] = less < coral[y + 1][x] ? coral[y + 1][x] : less;
                    }
                }
            }
        }
    }

    private int heads() {
        return reefs().stream().mapToInt(Integer::intValue).sum();
    }

    long pass(int months) {
        if (months < 1 || months > 120) {
            return ARGUMENT;
        }
        int before = heads();
        for (int i = 0; i < months; i++) {
            monthGoes();
        }
        return heads() - before;
    }

    long count(int what) {
        if (what < 0 || what > 7) {
            return INDEX;
        }
        int all = 0;
        int noted = 0;
        int tooDeep = 0;
        int flat = 0;
        for (int y = 0; y < 9; y++) {
            for (int x = 0; x < 9; x++) {
                all += coral[y][x];
                noted += sounding[y][x] == -1 ? 0 : 1;
                tooDeep += sounding[y][x] != -1 && sounding[y][x] > depth(x, y) ? 1 : 0;
                flat += depth(x, y) == 0 ? 1 : 0;
            }
        }
        int largest = reefs().stream().mapToInt(Integer::intValue).max().orElse(0);
        return new int[] {month, heads(), reefs().size(), largest, all, noted, tooDeep, flat}[what];
    }

    long closes(int draught) {
        if (draught < 0 || draught > 39) {
            return ARGUMENT;
        }
        Model then = copy();
        for (int months = 0; months <= 100; months++) {
            if (then.shortest(draught, false) == -1) {
                return months;
            }
            then.monthGoes();
        }
        return -1;
    }

    long foresee(int months, int what) {
        if (months < 1 || months > 100) {
            return ARGUMENT;
        }
        if (what < 0 || what > 2) {
            return INDEX;
        }
        Model then = copy();
        for (int i = 0; i < months; i++) {
            then.monthGoes();
        }
        return what == 0 ? then.heads() : what == 1 ? then.reefs().size() : then.deepest(false);
    }

    long advise() {
        long best = -1;
        long most = 0;
        for (int place = 80; place >= 0; place--) {
            int x = place % 9;
            int y = place / 9;
            long safe = sounding[y][x] == -1 ? 0 : chart(x, y, 2);
            if (safe - depth(x, y) > 0 && safe - depth(x, y) >= most) {
                most = safe - depth(x, y);
                best = place;
            }
        }
        return best;
    }

    double mean() {
        double sum = 0;
        for (int place = 0; place < 81; place++) {
            sum += depth(place % 9, place / 9);
        }
        return sum / 81;
    }

    long digest() {
        List<Long> numbers = new ArrayList<>();
        for (int what = 0; what < 8; what++) {
            numbers.add(count(what));
        }
        for (int i = 0; i < 12; i++) {
            numbers.add(10L * warmth[i] + storm[i]);
        }
        for (int place = 0; place < 81; place++) {
            numbers.add(cell(place % 9, place / 9, 0));
            numbers.add(cell(place % 9, place / 9, 1));
            for (int what = 0; what < 3; what++) {
                numbers.add(chart(place % 9, place / 9, what));
            }
        }
        long d = 787;
        for (long x : numbers) {
            d = d * 31 + x;
        }
        return d;
    }
}
