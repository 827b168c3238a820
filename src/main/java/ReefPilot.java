import java.util.Arrays;

/**
 * Reef pilotage: a coast on which corals grow, merge into reefs and break in
 * storms, a chart of soundings that becomes old, and the ways of the ships.
 * A cell is known inside by its number 9 * y + x.
 */
public final class ReefPilot {
    private static final int SIDE = 9;
    private static final int CELLS = SIDE * SIDE;
    private static final int SHORE_ROW = CELLS - SIDE;
    private static final int NONE = -1;

    private static final int ABOVE = 0;
    private static final int LEFT = 1;
    private static final int RIGHT = 2;
    private static final int DIRECTIONS = 4;

    private static final int GREATEST_GROUND = 40;
    private static final int FIRST_GROUND = 20;
    private static final int HEAD = 5;
    private static final int TABLE_MONTHS = 12;
    private static final int GREATEST_IN_TABLE = 9;
    private static final int FIRST_WARMTH = 4;
    private static final int GREATEST_DRAUGHT = 39;
    private static final int CAME_THROUGH = CELLS;
    private static final int MONTHS_TO_PASS = 120;
    private static final int MONTHS_AHEAD = 100;
    private static final int COUNTS = 8;
    private static final int CHART_ANSWERS = 3;
    private static final int CELL_ANSWERS = 5;
    private static final int FORESEEN_ANSWERS = 3;

    private final Table table;
    private final Coast coast;
    /** What looking ahead lets the months change, so that the coast itself stays as it is. */
    private final Coast ahead;
    private final Soundings soundings;
    private final Spread spread;
    /** The depth that the ships count on, by the chart or as it is; NONE where they may not go at all. */
    private final int[] water;

    public ReefPilot() {
        table = new Table();
        coast = new Coast();
        ahead = new Coast();
        soundings = new Soundings();
        spread = new Spread();
        water = new int[CELLS];
    }

    // ---- coast and months

    public int setGround(int x, int y, int ground) throws IndexOutOfBoundsException, IllegalArgumentException {
        needCell(x, y);
        needWithin(ground, 0, GREATEST_GROUND);
        return coast.layGround(SIDE * y + x, ground);
    }

    public int plant(int x, int y, int coral) throws IndexOutOfBoundsException, IllegalArgumentException {
        needCell(x, y);
        needWithin(coral, 0, coast.groundOf(SIDE * y + x));
        return coast.setCoral(SIDE * y + x, coral);
    }

    public int setMonth(int month, int warmth, int storm) throws IndexOutOfBoundsException, IllegalArgumentException {
        needIndex(month, TABLE_MONTHS);
        needWithin(warmth, 0, GREATEST_IN_TABLE);
        needWithin(storm, 0, GREATEST_IN_TABLE);
        int before = table.entry(month);
        table.write(month, warmth, storm);
        return before;
    }

    public int cell(int x, int y, int what) throws IndexOutOfBoundsException {
        needCell(x, y);
        needIndex(what, CELL_ANSWERS);
        int place = SIDE * y + x;
        switch (what) {
            case 0: return coast.groundOf(place);
            case 1: return coast.coralOf(place);
            case 2: return coast.depthOf(place);
            case 3: return coast.isHead(place) ? 1 : 0;
            default: return headsOfReefAt(place);
        }
    }

    // ---- the chart

    public int sound(int x, int y) throws IndexOutOfBoundsException {
        needCell(x, y);
        int place = SIDE * y + x;
        int before = soundings.noted(place);
        int depth = coast.depthOf(place);
        soundings.note(place, depth, coast.monthNow());
        return before == NONE ? 0 : depth - before;
    }

    public int chart(int x, int y, int what) throws IndexOutOfBoundsException {
        needCell(x, y);
        needIndex(what, CHART_ANSWERS);
        return chartAnswer(SIDE * y + x, what);
    }

    // ---- ways

    public int way(int draught, boolean byChart) throws IllegalArgumentException {
        needWithin(draught, 0, GREATEST_DRAUGHT);
        countOn(byChart);
        int start = startOfShortestWay(draught);
        return start == NONE ? NONE : spread.stepsTo(start);
    }

    public int deepest(boolean byChart) {
        countOn(byChart);
        return greatestDraught();
    }

    public int harbours(int draught) throws IllegalArgumentException {
        needWithin(draught, 0, GREATEST_DRAUGHT);
        countOn(false);
        openWater(draught);
        spread.goFromRow(0);
        int reached = 0;
        for (int place = SHORE_ROW; place < CELLS; place++) {
            if (spread.stepsTo(place) > 0) {
                reached++;
            }
        }
        return reached;
    }

    public int pilot(int draught) throws IllegalArgumentException {
        needWithin(draught, 0, GREATEST_DRAUGHT);
        countOn(true);
        int start = startOfShortestWay(draught);
        return start == NONE ? NONE : leadFrom(start, draught);
    }

    // ---- months

    public int pass(int months) throws IllegalArgumentException {
        needWithin(months, 1, MONTHS_TO_PASS);
        int before = coast.heads();
        for (int gone = 0; gone < months; gone++) {
            coast.letMonthGo(table);
        }
        return coast.heads() - before;
    }

    public int count(int what) throws IndexOutOfBoundsException {
        needIndex(what, COUNTS);
        return countAnswer(what);
    }

    // ---- looking ahead

    public int closes(int draught) throws IllegalArgumentException {
        needWithin(draught, 0, GREATEST_DRAUGHT);
        ahead.becomeLike(coast);
        for (int months = 0; months <= MONTHS_AHEAD; months++) {
            countOnDepths(ahead);
            if (startOfShortestWay(draught) == NONE) {
                return months;
            }
            ahead.letMonthGo(table);
        }
        return NONE;
    }

    public int foresee(int months, int what) throws IllegalArgumentException, IndexOutOfBoundsException {
        needWithin(months, 1, MONTHS_AHEAD);
        needIndex(what, FORESEEN_ANSWERS);
        ahead.becomeLike(coast);
        for (int gone = 0; gone < months; gone++) {
            ahead.letMonthGo(table);
        }
        switch (what) {
            case 0: return ahead.heads();
            case 1: return reefsOn(ahead);
            default:
                countOnDepths(ahead);
                return greatestDraught();
        }
    }

    public int advise() {
        int best = NONE;
        int mostTooDeep = 0;
        for (int place = 0; place < CELLS; place++) {
            int believed = Math.max(safeDepth(place), 0);
            int tooDeep = believed - coast.depthOf(place);
            if (tooDeep > mostTooDeep) {
                mostTooDeep = tooDeep;
                best = place;
            }
        }
        return best;
    }

    public double mean() {
        int sum = 0;
        for (int place = 0; place < CELLS; place++) {
            sum += coast.depthOf(place);
        }
        return (double) sum / CELLS;
    }

    public long digest() {
        long sum = 787;
        for (int what = 0; what < COUNTS; what++) {
            sum = sum * 31 + countAnswer(what);
        }
        for (int month = 0; month < TABLE_MONTHS; month++) {
            sum = sum * 31 + table.entry(month);
        }
        for (int place = 0; place < CELLS; place++) {
            sum = sum * 31 + coast.groundOf(place);
            sum = sum * 31 + coast.coralOf(place);
            for (int what = 0; what < CHART_ANSWERS; what++) {
                sum = sum * 31 + chartAnswer(place, what);
            }
        }
        return sum;
    }

    // ---- what the calls need

    private static void needCell(int x, int y) {
        needIndex(x, SIDE);
        needIndex(y, SIDE);
    }

    private static void needIndex(int index, int size) {
        if (index < 0 || index >= size) {
            throw new IndexOutOfBoundsException("an index outside its bounds");
        }
    }

    private static void needWithin(int number, int least, int greatest) {
        if (number < least || number > greatest) {
            throw new IllegalArgumentException("a number outside its bounds");
        }
    }

    // ---- answers that several calls share

    private int countAnswer(int what) {
        switch (what) {
            case 0: return coast.monthNow();
            case 1: return coast.heads();
            case 2: return reefsOn(coast);
            case 3: return headsOfLargestReef();
            case 4: return coast.allCoral();
            case 5: return soundingsTaken();
            case 6: return soundingsTooDeep();
            default: return cellsWithoutDepth();
        }
    }

    private int soundingsTaken() {
        int found = 0;
        for (int place = 0; place < CELLS; place++) {
            if (soundings.noted(place) != NONE) {
                found++;
            }
        }
        return found;
    }

    /** A place without a sounding notes NONE, which is less than every depth. */
    private int soundingsTooDeep() {
        int found = 0;
        for (int place = 0; place < CELLS; place++) {
            if (soundings.noted(place) > coast.depthOf(place)) {
                found++;
            }
        }
        return found;
    }

    private int cellsWithoutDepth() {
        int found = 0;
        for (int place = 0; place < CELLS; place++) {
            if (coast.depthOf(place) == 0) {
                found++;
            }
        }
        return found;
    }

    private int chartAnswer(int place, int what) {
        switch (what) {
            case 0: return soundings.noted(place);
            case 1: return soundings.age(place, coast.monthNow());
            default: return safeDepth(place);
        }
    }

    /** The depth that is safe by the chart; NONE without a sounding, which lets no draught pass. */
    private int safeDepth(int place) {
        int noted = soundings.noted(place);
        if (noted == NONE) {
            return NONE;
        }
        return Math.max(noted - soundings.age(place, coast.monthNow()) / 2, 0);
    }

    // ---- reefs

    private int headsOfReefAt(int place) {
        openHeads(coast);
        return spread.goFromCell(place);
    }

    private int reefsOn(Coast where) {
        openHeads(where);
        int reefs = 0;
        for (int place = 0; place < CELLS; place++) {
            if (spread.goFromCell(place) > 0) {
                reefs++;
            }
        }
        return reefs;
    }

    private int headsOfLargestReef() {
        openHeads(coast);
        int largest = 0;
        for (int place = 0; place < CELLS; place++) {
            largest = Math.max(largest, spread.goFromCell(place));
        }
        return largest;
    }

    private void openHeads(Coast where) {
        spread.clear();
        for (int place = 0; place < CELLS; place++) {
            spread.setOpen(place, where.isHead(place));
        }
    }

    // ---- ways of the ships

    private void countOn(boolean byChart) {
        if (byChart) {
            countOnChart();
        } else {
            countOnDepths(coast);
        }
    }

    private void countOnChart() {
        for (int place = 0; place < CELLS; place++) {
            water[place] = safeDepth(place);
        }
    }

    private void countOnDepths(Coast where) {
        for (int place = 0; place < CELLS; place++) {
            water[place] = where.depthOf(place);
        }
    }

    private void openWater(int draught) {
        spread.clear();
        for (int place = 0; place < CELLS; place++) {
            spread.setOpen(place, water[place] > draught);
        }
    }

    /**
     * The cell of the row 0 from which the way is shortest; NONE without a way. It measures from the shore, so that
     * the steps to a cell are the cells still ahead of a ship there.
     */
    private int startOfShortestWay(int draught) {
        openWater(draught);
        spread.goFromRow(SHORE_ROW);
        int start = NONE;
        for (int place = 0; place < SIDE; place++) {
            int steps = spread.stepsTo(place);
            if (steps > 0 && (start == NONE || steps < spread.stepsTo(start))) {
                start = place;
            }
        }
        return start;
    }

    private int greatestDraught() {
        for (int draught = GREATEST_DRAUGHT; draught >= 0; draught--) {
            if (startOfShortestWay(draught) != NONE) {
                return draught;
            }
        }
        return NONE;
    }

    private int leadFrom(int start, int draught) {
        int place = start;
        for (int left = spread.stepsTo(start); left > 0; left--) {
            if (coast.depthOf(place) <= draught) {
                return place;
            }
            place = spread.nearerFrom(place);
        }
        return CAME_THROUGH;
    }

    /** The neighbour in a direction, counted above, left, right, below; NONE beyond the coast's edge. */
    private static int neighbour(int place, int direction) {
        int x = place % SIDE;
        switch (direction) {
            case ABOVE: return place >= SIDE ? place - SIDE : NONE;
            case LEFT: return x > 0 ? place - 1 : NONE;
            case RIGHT: return x < SIDE - 1 ? place + 1 : NONE;
            default: return place < SHORE_ROW ? place + SIDE : NONE;
        }
    }

    /** The table of the months: warmth and storm for each month of a year. */
    private static final class Table {
        private final int[] warmth = new int[TABLE_MONTHS];
        private final int[] storm = new int[TABLE_MONTHS];

        Table() {
            Arrays.fill(warmth, FIRST_WARMTH);
        }

        void write(int month, int newWarmth, int newStorm) {
            warmth[month] = newWarmth;
            storm[month] = newStorm;
        }

        int entry(int month) {
            return 10 * warmth[month] + storm[month];
        }

        int warmthIn(int month) {
            return warmth[Math.floorMod(month, TABLE_MONTHS)];
        }

        int stormIn(int month) {
            return storm[Math.floorMod(month, TABLE_MONTHS)];
        }
    }

    /** Ground and coral of every cell in a month; coral is never higher than its ground. */
    private static final class Coast {
        private final int[] ground = new int[CELLS];
        private final int[] coral = new int[CELLS];
        /** The heads as a step of the month found them, for the step changes corals as it goes. */
        private final boolean[] headBefore = new boolean[CELLS];
        private int month;

        Coast() {
            Arrays.fill(ground, FIRST_GROUND);
        }

        void becomeLike(Coast other) {
            System.arraycopy(other.ground, 0, ground, 0, CELLS);
            System.arraycopy(other.coral, 0, coral, 0, CELLS);
            month = other.month;
        }

        int layGround(int place, int newGround) {
            int before = ground[place];
            ground[place] = newGround;
            coral[place] = Math.min(coral[place], newGround);
            return before;
        }

        int setCoral(int place, int newCoral) {
            int before = coral[place];
            coral[place] = newCoral;
            return before;
        }

        int groundOf(int place) {
            return ground[place];
        }

        int coralOf(int place) {
            return coral[place];
        }

        int depthOf(int place) {
            return Math.max(ground[place] - coral[place], 0);
        }

        boolean isHead(int place) {
            return coral[place] >= HEAD;
        }

        int monthNow() {
            return month;
        }

        int heads() {
            int found = 0;
            for (int place = 0; place < CELLS; place++) {
                if (isHead(place)) {
                    found++;
                }
            }
            return found;
        }

        int allCoral() {
            int sum = 0;
            for (int place = 0; place < CELLS; place++) {
                sum += coral[place];
            }
            return sum;
        }

        void letMonthGo(Table table) {
            changeByWarmth(table.warmthIn(month));
            seed();
            breakByStorm(table.stormIn(month));
            month++;
        }

        private void changeByWarmth(int warmth) {
            if (warmth >= 8) {
                dieBack();
            } else if (warmth >= 3) {
                grow();
            }
        }

        private void dieBack() {
            for (int place = 0; place < CELLS; place++) {
                coral[place] = Math.max(coral[place] - 1, 0);
            }
        }

        private void grow() {
            rememberHeads();
            for (int place = 0; place < CELLS; place++) {
                int depth = depthOf(place);
                if (coral[place] > 0 && depth >= 2 && depth <= 15) {
                    int growth = headsBeside(place) >= 2 ? 2 : 1;
                    coral[place] = Math.min(coral[place] + growth, ground[place] - 1);
                }
            }
        }

        private void seed() {
            rememberHeads();
            for (int place = 0; place < CELLS; place++) {
                boolean fit = coral[place] == 0 && ground[place] >= 3 && ground[place] <= 15;
                if (fit && headsBeside(place) > 0) {
                    coral[place] = 1;
                }
            }
        }

        private void rememberHeads() {
            for (int place = 0; place < CELLS; place++) {
                headBefore[place] = isHead(place);
            }
        }

        private int headsBeside(int place) {
            int found = 0;
            for (int direction = 0; direction < DIRECTIONS; direction++) {
                int beside = neighbour(place, direction);
                if (beside != NONE && headBefore[beside]) {
                    found++;
                }
            }
            return found;
        }

        private void breakByStorm(int storm) {
            for (int place = 0; place < CELLS; place++) {
                if (depthOf(place) < storm / 2) {
                    int broken = Math.min(storm / 3, coral[place]);
                    coral[place] -= broken;
                    dropRubble(place + SIDE, broken);
                }
            }
        }

        /** Coral is at least 0, so ground that is not less than its coral is at least 0 too. */
        private void dropRubble(int place, int rubble) {
            if (place < CELLS) {
                ground[place] = Math.max(ground[place] - rubble, coral[place]);
            }
        }
    }

    /** The chart: of each cell the last sounding and its month. */
    private static final class Soundings {
        private final int[] depth = new int[CELLS];
        private final int[] takenIn = new int[CELLS];

        Soundings() {
            Arrays.fill(depth, NONE);
        }

        void note(int place, int newDepth, int month) {
            depth[place] = newDepth;
            takenIn[place] = month;
        }

        int noted(int place) {
            return depth[place];
        }

        int age(int place, int month) {
            return depth[place] == NONE ? NONE : month - takenIn[place];
        }
    }

    /** Spreads from cell to neighbour over the open cells, the nearest first. */
    private static final class Spread {
        private final boolean[] open = new boolean[CELLS];
        /** How many cells it takes to come to a cell, with both ends; 0 where nothing came. */
        private final int[] steps = new int[CELLS];
        private final int[] reached = new int[CELLS];
        private int reachedCells;

        void clear() {
            Arrays.fill(steps, 0);
            reachedCells = 0;
        }

        void setOpen(int place, boolean mayBeEntered) {
            open[place] = mayBeEntered;
        }

        int stepsTo(int place) {
            return steps[place];
        }

        void goFromRow(int firstOfRow) {
            int first = reachedCells;
            for (int x = 0; x < SIDE; x++) {
                reach(firstOfRow + x, 1);
            }
            goOnFrom(first);
        }

        /** Returns how many cells were reached for the first time since clear(). */
        int goFromCell(int place) {
            int first = reachedCells;
            reach(place, 1);
            goOnFrom(first);
            return reachedCells - first;
        }

        /** The neighbour from which it is shortest to where the spread began; the cell itself at its end. */
        int nearerFrom(int place) {
            int best = place;
            for (int direction = 0; direction < DIRECTIONS; direction++) {
                int beside = neighbour(place, direction);
                if (beside != NONE && steps[beside] > 0 && steps[beside] < steps[best]) {
                    best = beside;
                }
            }
            return best;
        }

        private void goOnFrom(int first) {
            for (int next = first; next < CELLS && next < reachedCells; next++) {
                int place = reached[next];
                for (int direction = 0; direction < DIRECTIONS; direction++) {
                    int beside = neighbour(place, direction);
                    if (beside != NONE) {
                        reach(beside, steps[place] + 1);
                    }
                }
            }
        }

        private void reach(int place, int cells) {
            if (open[place] && steps[place] == 0 && reachedCells < CELLS) {
                steps[place] = cells;
                reached[reachedCells] = place;
                reachedCells++;
            }
        }
    }
}
