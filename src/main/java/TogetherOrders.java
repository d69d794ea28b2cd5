import java.util.Arrays;

/**
 * Orders in which parts of boxes are put together: which way each one is free of the others by
 * exact sweeps, and what follows from that. README.md tells how to use it.
 */
public final class TogetherOrders {
    public static final int NONE = -1;

    private static final int AXES = 3;
    private static final int MOST_PARTS = 12;
    private static final int MOST_BOXES = 40;
    private static final int MOST_GLUES = 16;
    private static final int MOST_MINUTES = 1000;
    private static final int MOST_HANDS = 12;
    private static final int MOST_MOVES = 2;
    private static final long MOST_PLACE = 1000000L;
    private static final long MOST_SIZE = 1000000L;
    private static final long MOST_SLANT = 1000L;

    /** Directions 0 .. 5 run along an axis, those behind them are the slants. */
    private static final int AXIS_WAYS = 6;
    private static final int MOST_WAYS = 10;
    /** A way of speed 0 in all axes: a box swept along it overlaps just what it overlaps at rest. */
    private static final int AT_REST = 10;

    /** What has been shifted by at most two small moves lies in a cube of five places an axis. */
    private static final int CUBE_EDGE = 5;
    private static final int CUBE_CELLS = 125;
    private static final int CUBE_MIDDLE = 62;
    /** By how many cells of the cube a small move along each direction 0 .. 5 goes on. */
    private static final int[] MOVE_CELLS = {25, -25, 5, -5, 1, -1};
    /** How many shifts there are of at most 0, 1, 2 small moves. */
    private static final int[] SHIFTS_WITHIN = {1, 7, 25};
    private static final int MOST_SHIFTS = 25;
    private static final int NO_SHIFT = 0;

    /** One bit for each set of items. */
    private static final int SET_WORDS = 64;

    private final Items items;
    private final Boxes boxes;
    private final Ways ways;
    private final Glues glues;
    private final Bars bars;
    private final Plan plan;
    private final Sets sets;
    private final SmallMoves moves;
    private boolean ran;

    public TogetherOrders() {
        items = new Items();
        boxes = new Boxes();
        ways = new Ways();
        glues = new Glues();
        bars = new Bars(items, boxes, ways);
        plan = new Plan(items, bars);
        sets = new Sets(items, ways, bars);
        moves = new SmallMoves(items, ways, bars);
        ran = false;
    }

    public int part() throws IllegalStateException {
        if (items.parts >= MOST_PARTS) {
            throw new IllegalStateException("no room for a part");
        }
        ran = false;
        return items.addPart();
    }

    public int box(int part, long x, long y, long z2, long w, long h)
            throws IndexOutOfBoundsException, IllegalStateException, IllegalArgumentException {
        needPart(part);
        if (boxes.count >= MOST_BOXES) {
            throw new IllegalStateException("no room for a box");
        }
        if (!isPlace(x) || !isPlace(y) || !isPlace(z2)) {
            throw new IllegalArgumentException("a place is not -1000000 .. 1000000");
        }
        if (!isSize(w) || !isSize(h)) {
            throw new IllegalArgumentException("a size is not 1 .. 1000000");
        }
        ran = false;
        return boxes.addBox(part, x, y, z2, w, h);
    }

    public boolean deep(int box, long d) throws IndexOutOfBoundsException, IllegalArgumentException {
        if (!boxes.has(box)) {
            throw new IndexOutOfBoundsException("no such box");
        }
        if (!isSize(d)) {
            throw new IllegalArgumentException("a size is not 1 .. 1000000");
        }
        boolean changed = boxes.setDepth(box, d);
        if (changed) {
            ran = false;
        }
        return changed;
    }

    public boolean slant(long x, long y, long z2) throws IllegalArgumentException {
        if (!isSlant(x) || !isSlant(y) || !isSlant(z2)) {
            throw new IllegalArgumentException("a slant is not -1000 .. 1000");
        }
        if (x == 0 && y == 0 && z2 == 0) {
            throw new IllegalArgumentException("a slant goes nowhere");
        }
        boolean added = ways.addSlant(x, y, z2);
        if (added) {
            ran = false;
        }
        return added;
    }

    public boolean group(int a, int b) throws IndexOutOfBoundsException, IllegalArgumentException {
        needTwoParts(a, b);
        boolean joined = items.join(a, b);
        if (joined) {
            ran = false;
        }
        return joined;
    }

    public boolean free(int part, int direction, long partsBits)
            throws IndexOutOfBoundsException, IllegalArgumentException {
        needPart(part);
        if (!ways.has(direction)) {
            throw new IndexOutOfBoundsException("no such direction");
        }
        if (partsBits >>> items.parts != 0) {
            throw new IllegalArgumentException("a bit of no part");
        }
        return !bars.isPartBarred(part, direction, partsBits);
    }

    public int run() {
        if (!ran) {
            bars.refresh();
            plan.make();
            sets.forget();
            moves.forget();
            ran = true;
        }
        return plan.stuck == 0 ? plan.steps : 0;
    }

    public int step(int k, int what)
            throws IllegalStateException, IndexOutOfBoundsException, IllegalArgumentException {
        needSteps();
        if (k < 0 || k >= plan.steps) {
            throw new IndexOutOfBoundsException("no such step");
        }
        if (what < 0 || what > 2) {
            throw new IllegalArgumentException("what is not 0 .. 2");
        }
        if (what == 1) {
            return plan.wayOfStep(k);
        }
        int item = plan.itemOfStep(k);
        return what == 0 ? item : items.partsOf(1 << item);
    }

    public int apart(int k) throws IllegalStateException, IndexOutOfBoundsException {
        needRun();
        needNumber(k);
        return k < plan.steps ? plan.taken[k] : NONE;
    }

    public int locked(int k) throws IllegalStateException, IndexOutOfBoundsException {
        needRun();
        needNumber(k);
        return Items.bitAt(items.partsOf(plan.stuck), k);
    }

    public int stage(int k) throws IllegalStateException, IndexOutOfBoundsException {
        needSteps();
        needNumber(k);
        return plan.firstStepOfStage(k);
    }

    public int turnings() throws IllegalStateException {
        needRun();
        return plan.stuck == 0 ? sets.leastTurnings() : NONE;
    }

    public int two(int depth) throws IllegalStateException, IllegalArgumentException {
        needRun();
        if (depth < 0 || depth > MOST_MOVES) {
            throw new IllegalArgumentException("depth is not 0 .. 2");
        }
        return moves.leastWithin(depth) + 1;
    }

    public int hands(int n, int k)
            throws IllegalStateException, IndexOutOfBoundsException, IllegalArgumentException {
        needRun();
        needNumber(k);
        if (n < 1 || n > MOST_HANDS) {
            throw new IllegalArgumentException("n is not 1 .. 12");
        }
        return plan.goingInRound(n, k);
    }

    public int out(int part) throws IllegalStateException, IndexOutOfBoundsException {
        needRun();
        needPart(part);
        return sets.leastBefore(items.itemOf[part]);
    }

    public boolean glue(int a, int b, int minutes)
            throws IndexOutOfBoundsException, IllegalArgumentException {
        needTwoParts(a, b);
        if (minutes < 0 || minutes > MOST_MINUTES) {
            throw new IllegalArgumentException("minutes are not 0 .. 1000");
        }
        return glues.addGlue(a, b, minutes);
    }

    public boolean keeps() throws IllegalStateException {
        needSteps();
        for (int i = 0; i < glues.count; i++) {
            int a = plan.orderOf[items.itemOf[glues.first[i]]];
            int b = plan.orderOf[items.itemOf[glues.second[i]]];
            if (Math.abs(a - b) > glues.minutes[i]) {
                return false;
            }
        }
        return true;
    }

    public int clamp(int a, int b, long reach)
            throws IndexOutOfBoundsException, IllegalArgumentException {
        needPart(a);
        needPart(b);
        if (reach < 0) {
            throw new IllegalArgumentException("reach is below 0");
        }
        if (!boxes.hasPart(a) || !boxes.hasPart(b)) {
            return NONE;
        }
        for (int axis = 0; axis < AXES; axis++) {
            if (boxes.extent(a, b, axis) <= reach) {
                return axis;
            }
        }
        return NONE;
    }

    private void needPart(int part) {
        if (!items.has(part)) {
            throw new IndexOutOfBoundsException("no such part");
        }
    }

    private void needTwoParts(int a, int b) {
        needPart(a);
        needPart(b);
        if (a == b) {
            throw new IllegalArgumentException("both parts are the same");
        }
    }

    private void needNumber(int k) {
        if (k < 0) {
            throw new IndexOutOfBoundsException("k is below 0");
        }
    }

    private void needRun() {
        if (!ran) {
            throw new IllegalStateException("it was not run");
        }
    }

    private void needSteps() {
        needRun();
        if (plan.stuck != 0) {
            throw new IllegalStateException("some are locked");
        }
    }

    private static boolean isPlace(long value) {
        return value >= -MOST_PLACE && value <= MOST_PLACE;
    }

    private static boolean isSize(long value) {
        return value >= 1 && value <= MOST_SIZE;
    }

    private static boolean isSlant(long value) {
        return value >= -MOST_SLANT && value <= MOST_SLANT;
    }

    /** The parts, and which of them hang together. Sets of items are bits, as sets of parts are. */
    static final class Items {
        int parts = 0;
        final int[] itemOf = new int[MOST_PARTS];

        boolean has(int part) {
            return part >= 0 && part < parts;
        }

        static int bitAt(int bits, int k) {
            int before = 0;
            for (int i = 0; i < MOST_PARTS; i++) {
                if ((bits >> i & 1) == 1) {
                    if (before == k) {
                        return i;
                    }
                    before++;
                }
            }
            return NONE;
        }

        boolean isItem(int part) {
            return has(part) && itemOf[part] == part;
        }

        int addPart() {
            if (parts >= MOST_PARTS) {
                return NONE;
            }
            itemOf[parts] = parts;
            parts++;
            return parts - 1;
        }

        boolean join(int a, int b) {
            if (!has(a) || !has(b) || itemOf[a] == itemOf[b]) {
                return false;
            }
            int least = Math.min(itemOf[a], itemOf[b]);
            int other = Math.max(itemOf[a], itemOf[b]);
            for (int part = 0; part < parts; part++) {
                if (itemOf[part] == other) {
                    itemOf[part] = least;
                }
            }
            return true;
        }

        int all() {
            int bits = 0;
            for (int part = 0; part < parts; part++) {
                bits |= 1 << itemOf[part];
            }
            return bits;
        }

        int partsOf(int itemBits) {
            int bits = 0;
            for (int part = 0; part < parts; part++) {
                if ((itemBits >> itemOf[part] & 1) == 1) {
                    bits |= 1 << part;
                }
            }
            return bits;
        }
    }

    static final class Boxes {
        int count = 0;
        final int[] partOf = new int[MOST_BOXES];
        final long[][] begin = new long[AXES][MOST_BOXES];
        final long[][] size = new long[AXES][MOST_BOXES];

        boolean has(int number) {
            return number >= 0 && number < count;
        }

        int addBox(int owner, long x, long y, long z, long w, long h) {
            if (count >= MOST_BOXES) {
                return NONE;
            }
            partOf[count] = owner;
            begin[0][count] = x;
            begin[1][count] = y;
            begin[2][count] = z;
            size[0][count] = w;
            size[1][count] = h;
            size[2][count] = 1;
            count++;
            return count - 1;
        }

        boolean setDepth(int number, long depth) {
            if (!has(number) || size[2][number] == depth) {
                return false;
            }
            size[2][number] = depth;
            return true;
        }

        boolean hasPart(int owner) {
            for (int i = 0; i < count; i++) {
                if (partOf[i] == owner) {
                    return true;
                }
            }
            return false;
        }

        /** How long two parts are together in an axis; at least one of them has boxes. */
        long extent(int a, int b, int axis) {
            long least = Long.MAX_VALUE;
            long greatest = Long.MIN_VALUE;
            for (int i = 0; i < count; i++) {
                if (partOf[i] == a || partOf[i] == b) {
                    least = Math.min(least, begin[axis][i]);
                    greatest = Math.max(greatest, begin[axis][i] + size[axis][i]);
                }
            }
            return greatest - least;
        }
    }

    static final class Ways {
        int count = AXIS_WAYS;
        final long[][] speed = new long[AXES][MOST_WAYS + 1];

        Ways() {
            for (int way = 0; way < AXIS_WAYS; way++) {
                speed[way / 2][way] = way % 2 == 0 ? 1 : -1;
            }
        }

        boolean has(int way) {
            return way >= 0 && way < count;
        }

        boolean addSlant(long x, long y, long z) {
            if (count >= MOST_WAYS) {
                return false;
            }
            speed[0][count] = x;
            speed[1][count] = y;
            speed[2][count] = z;
            count++;
            return true;
        }
    }

    static final class Glues {
        int count = 0;
        final int[] first = new int[MOST_GLUES];
        final int[] second = new int[MOST_GLUES];
        final int[] minutes = new int[MOST_GLUES];

        boolean addGlue(int a, int b, int open) {
            if (count >= MOST_GLUES) {
                return false;
            }
            first[count] = a;
            second[count] = b;
            minutes[count] = open;
            count++;
            return true;
        }
    }

    /**
     * Which items bar which one along which way, also when it has been shifted against them by
     * small moves. Shifts are numbered: none, then those of one small move, then those of two.
     */
    static final class Bars {
        private final Items items;
        private final Boxes boxes;
        private final Ways ways;
        private final int[] shiftOfCell = new int[CUBE_CELLS];
        private final long[][] shiftBy = new long[AXES][MOST_SHIFTS];
        private final int[][] barring = new int[MOST_SHIFTS][(MOST_WAYS + 1) * MOST_PARTS];
        private int filled = 0;

        Bars(Items items, Boxes boxes, Ways ways) {
            this.items = items;
            this.boxes = boxes;
            this.ways = ways;
            int shifts = 0;
            for (int length = 0; length <= MOST_MOVES; length++) {
                for (int cell = 0; cell < CUBE_CELLS && shifts < MOST_SHIFTS; cell++) {
                    int x = cell / (CUBE_EDGE * CUBE_EDGE) - MOST_MOVES;
                    int y = cell / CUBE_EDGE % CUBE_EDGE - MOST_MOVES;
                    int z = cell % CUBE_EDGE - MOST_MOVES;
                    if (Math.abs(x) + Math.abs(y) + Math.abs(z) == length) {
                        shiftOfCell[cell] = shifts;
                        shiftBy[0][shifts] = x;
                        shiftBy[1][shifts] = y;
                        shiftBy[2][shifts] = z;
                        shifts++;
                    }
                }
            }
        }

        void refresh() {
            filled = 0;
            fillWithin(0);
        }

        /** The shifts by more moves are looked at only when they are asked for: they are dear. */
        void fillWithin(int moves) {
            int wanted = moves >= 0 && moves <= MOST_MOVES ? SHIFTS_WITHIN[moves] : 0;
            for (int shift = filled; shift < wanted; shift++) {
                fill(shift);
                filled = shift + 1;
            }
        }

        private void fill(int shift) {
            Arrays.fill(barring[shift], 0);
            for (int a = 0; a < boxes.count; a++) {
                int item = items.itemOf[boxes.partOf[a]];
                for (int b = 0; b < boxes.count; b++) {
                    if (items.itemOf[boxes.partOf[b]] != item) {
                        for (int way = 0; way < ways.count; way++) {
                            note(shift, way, a, b);
                        }
                        note(shift, AT_REST, a, b);
                    }
                }
            }
        }

        private void note(int shift, int way, int a, int b) {
            int[] row = barring[shift];
            int cell = way * MOST_PARTS + items.itemOf[boxes.partOf[a]];
            int other = 1 << items.itemOf[boxes.partOf[b]];
            if ((row[cell] & other) == 0 && meets(shift, way, a, b)) {
                row[cell] |= other;
            }
        }

        /**
         * Whether box a, shifted and then moved along a way, overlaps box b at a time above 0.
         * The times are an open range between two fractions, so that nothing is rounded; the upper
         * one begins as 1 / 0, which is above every other one when they are multiplied crosswise.
         */
        private boolean meets(int shift, int way, int a, int b) {
            long lowTop = 0;
            long lowBottom = 1;
            long highTop = 1;
            long highBottom = 0;
            for (int axis = 0; axis < AXES; axis++) {
                long from = boxes.begin[axis][a] + shiftBy[axis][shift];
                long near = boxes.begin[axis][b] - from - boxes.size[axis][a];
                long far = boxes.begin[axis][b] + boxes.size[axis][b] - from;
                long speed = ways.speed[axis][way];
                if (speed == 0) {
                    if (near >= 0 || far <= 0) {
                        return false;
                    }
                    continue;
                }
                long enters = speed > 0 ? near : -far;
                long leaves = speed > 0 ? far : -near;
                long bottom = Math.abs(speed);
                if (enters * lowBottom > lowTop * bottom) {
                    lowTop = enters;
                    lowBottom = bottom;
                }
                if (leaves * highBottom < highTop * bottom) {
                    highTop = leaves;
                    highBottom = bottom;
                }
            }
            return lowTop * highBottom < highTop * lowBottom;
        }

        boolean isPartBarred(int owner, int way, long others) {
            for (int a = 0; a < boxes.count; a++) {
                for (int b = 0; b < boxes.count && boxes.partOf[a] == owner; b++) {
                    int other = boxes.partOf[b];
                    if (other != owner && (others >> other & 1) == 1 && meets(NO_SHIFT, way, a, b)) {
                        return true;
                    }
                }
            }
            return false;
        }

        /** The number of the shift that lies so many cells behind the cube's middle. */
        int shiftAt(int cells) {
            int cell = CUBE_MIDDLE + cells;
            return cell >= 0 && cell < CUBE_CELLS ? shiftOfCell[cell] : NO_SHIFT;
        }

        int barsOf(int shift, int way, int item) {
            return barring[shift][way * MOST_PARTS + item];
        }

        int leastFreeWay(int item, int left) {
            for (int way = 0; way < ways.count; way++) {
                if ((barsOf(NO_SHIFT, way, item) & left) == 0) {
                    return way;
                }
            }
            return NONE;
        }

        /** The items of those left, at most so many, with the least numbers, that are free. */
        int freeOnes(int left, int most) {
            int bits = 0;
            int count = 0;
            for (int item = 0; item < MOST_PARTS && count < most; item++) {
                if ((left >> item & 1) == 1 && leastFreeWay(item, left) != NONE) {
                    bits |= 1 << item;
                    count++;
                }
            }
            return bits;
        }

        /** Those left when all are gone that can go one by one along one way. */
        int leftBehind(int left, int way) {
            int rest = left;
            for (int pass = 0; pass < MOST_PARTS; pass++) {
                int before = rest;
                for (int item = 0; item < MOST_PARTS; item++) {
                    if ((rest >> item & 1) == 1 && (barsOf(NO_SHIFT, way, item) & rest) == 0) {
                        rest &= ~(1 << item);
                    }
                }
                if (rest == before) {
                    break;
                }
            }
            return rest;
        }
    }

    /** What is taken apart, in its order, and what is stuck then. */
    static final class Plan {
        private final Items items;
        private final Bars bars;
        final int[] taken = new int[MOST_PARTS];
        final int[] wayOf = new int[MOST_PARTS];
        final int[] orderOf = new int[MOST_PARTS];
        int steps = 0;
        int stuck = 0;

        Plan(Items items, Bars bars) {
            this.items = items;
            this.bars = bars;
        }

        void make() {
            steps = 0;
            stuck = items.all();
            for (int i = 0; i < MOST_PARTS; i++) {
                int item = Items.bitAt(bars.freeOnes(stuck, 1), 0);
                if (item == NONE) {
                    return;
                }
                taken[i] = item;
                wayOf[i] = bars.leastFreeWay(item, stuck);
                orderOf[item] = i;
                stuck &= ~(1 << item);
                steps = i + 1;
            }
        }

        int itemOfStep(int k) {
            return k >= 0 && k < steps ? taken[steps - 1 - k] : NONE;
        }

        int wayOfStep(int k) {
            return k >= 0 && k < steps ? wayOf[steps - 1 - k] : NONE;
        }

        int firstStepOfStage(int k) {
            int before = 0;
            for (int i = 0; i < steps; i++) {
                if (i == 0 || wayOfStep(i) != wayOfStep(i - 1)) {
                    if (before == k) {
                        return i;
                    }
                    before++;
                }
            }
            return NONE;
        }

        int goingInRound(int n, int k) {
            int left = items.all();
            for (int round = 0; round < MOST_PARTS; round++) {
                int going = bars.freeOnes(left, n);
                if (round == k) {
                    return Integer.bitCount(going);
                }
                left &= ~going;
            }
            return 0;
        }
    }

    /** Searches over the sets of items that can be left. */
    static final class Sets {
        private final Items items;
        private final Ways ways;
        private final Bars bars;
        private final long[] reached = new long[SET_WORDS];
        private final int[] before = new int[MOST_PARTS];
        private boolean knowsBefore = false;
        private boolean knowsTurnings = false;
        private int turns = 0;

        Sets(Items items, Ways ways, Bars bars) {
            this.items = items;
            this.ways = ways;
            this.bars = bars;
        }

        void forget() {
            knowsBefore = false;
            knowsTurnings = false;
        }

        private boolean isReached(int set) {
            int word = set >> 6;
            return word >= 0 && word < SET_WORDS && (reached[word] >> (set & 63) & 1) == 1;
        }

        private void reach(int set) {
            int word = set >> 6;
            if (word >= 0 && word < SET_WORDS) {
                reached[word] |= 1L << (set & 63);
            }
        }

        /** The least number of other items that go before an item; NONE if it is locked. */
        int leastBefore(int item) {
            if (!knowsBefore) {
                findBefore();
                knowsBefore = true;
            }
            return before[item];
        }

        private void findBefore() {
            int all = items.all();
            Arrays.fill(before, NONE);
            Arrays.fill(reached, 0L);
            reach(all);
            // What is left only grows less as a number, so each set comes behind all that lead to it.
            for (int left = all; left > 0; left--) {
                if (isReached(left)) {
                    takeEachOff(left, Integer.bitCount(all) - Integer.bitCount(left));
                }
            }
        }

        private void takeEachOff(int left, int gone) {
            int going = bars.freeOnes(left, MOST_PARTS);
            for (int item = 0; item < MOST_PARTS; item++) {
                if ((going >> item & 1) == 1) {
                    if (before[item] == NONE || gone < before[item]) {
                        before[item] = gone;
                    }
                    reach(left & ~(1 << item));
                }
            }
        }

        /** The least number of turnings, if none is locked. */
        int leastTurnings() {
            if (!knowsTurnings) {
                turns = findTurnings();
                knowsTurnings = true;
            }
            return turns;
        }

        /**
         * Fewer left bar fewer, so along each direction all may go that can: only the choice of
         * the directions is searched.
         */
        private int findTurnings() {
            int all = items.all();
            if (all == 0) {
                return 0;
            }
            Arrays.fill(reached, 0L);
            reach(all);
            for (int count = 0; count < MOST_PARTS; count++) {
                if (isEmptiedByOneMore(all)) {
                    return count;
                }
            }
            return NONE;
        }

        /** Goes up, so that what is reached here, being less, waits for the next direction. */
        private boolean isEmptiedByOneMore(int all) {
            for (int left = 1; left <= all; left++) {
                for (int way = 0; way < ways.count && isReached(left); way++) {
                    int rest = bars.leftBehind(left, way);
                    if (rest == 0) {
                        return true;
                    }
                    reach(rest);
                }
            }
            return false;
        }
    }

    /** The search for small moves behind which an item is free. */
    static final class SmallMoves {
        private final Items items;
        private final Ways ways;
        private final Bars bars;
        /** By how many cells of the cube each item has been moved. */
        private final int[] moved = new int[MOST_PARTS];
        private int searched = NONE;
        private int found = NONE;

        SmallMoves(Items items, Ways ways, Bars bars) {
            this.items = items;
            this.ways = ways;
            this.bars = bars;
        }

        void forget() {
            searched = NONE;
            found = NONE;
        }

        int leastWithin(int most) {
            for (int count = searched + 1; count <= most && found == NONE; count++) {
                bars.fillWithin(count);
                if (isFreedBy(count)) {
                    found = count;
                }
                searched = count;
            }
            return found <= most ? found : NONE;
        }

        private boolean isFreedBy(int count) {
            if (count <= 0) {
                return isSomeFree();
            }
            boolean freed = false;
            for (int item = 0; item < items.parts && !freed; item++) {
                for (int way = 0; way < AXIS_WAYS && items.isItem(item) && !freed; way++) {
                    moved[item] += MOVE_CELLS[way];
                    freed = !isBarred(item, AT_REST, unmoved()) && isFreedBy(count - 1);
                    moved[item] -= MOVE_CELLS[way];
                }
            }
            return freed;
        }

        private boolean isSomeFree() {
            int still = unmoved();
            for (int item = 0; item < items.parts; item++) {
                for (int way = 0; way < ways.count && items.isItem(item); way++) {
                    if (!isBarred(item, way, still)) {
                        return true;
                    }
                }
            }
            return false;
        }

        private int unmoved() {
            int bits = 0;
            for (int item = 0; item < items.parts; item++) {
                if (moved[item] == 0) {
                    bits |= 1 << item;
                }
            }
            return bits;
        }

        /** All that are unmoved lie in one shift's row; only the one or two moved ones are asked singly. */
        private boolean isBarred(int item, int way, int still) {
            if ((bars.barsOf(bars.shiftAt(moved[item]), way, item) & still) != 0) {
                return true;
            }
            for (int other = 0; other < items.parts; other++) {
                if (other != item && moved[other] != 0) {
                    int shift = bars.shiftAt(moved[item] - moved[other]);
                    if ((bars.barsOf(shift, way, item) >> other & 1) == 1) {
                        return true;
                    }
                }
            }
            return false;
        }
    }
}
