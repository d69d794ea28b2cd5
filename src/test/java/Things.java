/** Things that the tests take apart. */
final class Things {
    private Things() {
    }

    static TogetherOrders parts(int n) {
        TogetherOrders x = new TogetherOrders();
        for (int i = 0; i < n; i++) {
            x.part();
        }
        return x;
    }

    /** A box of all three sizes: its number. */
    static int block(TogetherOrders x, int part, long[] from, long[] size) {
        int box = x.box(part, from[0], from[1], from[2], size[0], size[1]);
        x.deep(box, size[2]);
        return box;
    }

    static long[] at(long x, long y, long z) {
        return new long[] {x, y, z};
    }

    /** A box of the size 1 in each axis. */
    static int dot(TogetherOrders x, int part, long[] from) {
        return x.box(part, from[0], from[1], from[2], 1, 1);
    }

    /** Walls of thickness 1 round a hollow cube of the given edge that begins at 0, 0, 0. */
    static void shell(TogetherOrders x, int part, long edge, boolean lid) {
        block(x, part, at(-1, -1, -1), at(1, edge + 2, edge + 2));
        block(x, part, at(edge, -1, -1), at(1, edge + 2, edge + 2));
        block(x, part, at(-1, -1, -1), at(edge + 2, 1, edge + 2));
        block(x, part, at(-1, edge, -1), at(edge + 2, 1, edge + 2));
        block(x, part, at(-1, -1, -1), at(edge + 2, edge + 2, 1));
        if (lid) {
            block(x, part, at(-1, -1, edge), at(edge + 2, edge + 2, 1));
        }
    }

    /** Part 0 is a closed shell with part 1 in it: both are locked. */
    static TogetherOrders lockedPair() {
        TogetherOrders x = parts(2);
        shell(x, 0, 3, true);
        block(x, 1, at(1, 1, 1), at(1, 1, 1));
        return x;
    }

    /** A cup open along z, a thing in it, and a lid upon it: parts 0, 1, 2. */
    static TogetherOrders cup() {
        TogetherOrders x = parts(3);
        shell(x, 0, 3, false);
        block(x, 1, at(0, 0, 0), at(3, 3, 3));
        block(x, 2, at(-1, -1, 4), at(5, 5, 1));
        return x;
    }

    /** A shell of edge 3 with a hole of 1 over 2, 2 in its lid; a thing of 1 is at a place in it. */
    static TogetherOrders holed(long thingX, long thingY, long thingZ) {
        TogetherOrders x = parts(2);
        shell(x, 0, 3, false);
        block(x, 0, at(-1, -1, 3), at(3, 5, 1));
        block(x, 0, at(3, -1, 3), at(1, 5, 1));
        block(x, 0, at(2, -1, 3), at(1, 3, 1));
        block(x, 0, at(2, 3, 3), at(1, 1, 1));
        block(x, 1, at(thingX, thingY, thingZ), at(1, 1, 1));
        return x;
    }

    /** A lid with a hole of 3 along x, so that what is low enough leaves by a slant. */
    static TogetherOrders wideHoled() {
        TogetherOrders x = parts(2);
        shell(x, 0, 5, false);
        block(x, 0, at(-1, -1, 5), at(3, 7, 1));
        block(x, 0, at(2, -1, 5), at(4, 3, 1));
        block(x, 0, at(2, 3, 5), at(4, 3, 1));
        block(x, 0, at(5, -1, 5), at(1, 7, 1));
        block(x, 1, at(0, 1, 2), at(1, 1, 1));
        return x;
    }

    /** Part 0 is barred along each axis by dots of part 1; a slant along x and z leads out between. */
    static TogetherOrders slit() {
        TogetherOrders x = parts(2);
        long[][] walls = {{-1, 0, 0}, {0, -1, 0}, {0, 1, 0}, {0, 0, -1}, {9, 0, 0}, {0, 0, 9}};
        dot(x, 0, at(0, 0, 0));
        for (long[] wall : walls) {
            dot(x, 1, wall);
        }
        return x;
    }

    /** Twelve parts in the same place: all are locked, and no small moves help. */
    static TogetherOrders heap() {
        TogetherOrders x = parts(12);
        for (int i = 0; i < 12; i++) {
            block(x, i, at(0, 0, 0), at(9, 9, 9));
        }
        return x;
    }

    /**
     * Twelve items of which each but the last two can only go when the one before has gone: the
     * even ones only along x, the odd ones only along y. Part 11 is a frame that is shut against x
     * and y and in both ways of z; its lugs bar each one the way that is not its own. Each one has
     * a layer in z, into which the one before it reaches with an arm.
     */
    static TogetherOrders chain() {
        TogetherOrders x = parts(12);
        block(x, 11, at(-9, -9, -1), at(1, 99, 99));
        block(x, 11, at(-9, -9, -1), at(99, 1, 99));
        block(x, 11, at(-9, -9, -2), at(99, 99, 1));
        block(x, 11, at(-9, -9, 98), at(99, 99, 1));
        for (int i = 0; i < 11; i++) {
            boolean alongX = i % 2 == 0;
            block(x, i, at(0, 0, 2 * i), at(1, 1, 1));
            block(x, 11, at(alongX ? 0 : 1, alongX ? 1 : 0, 2 * i), at(1, 1, 1));
            if (i > 0) {
                block(x, i - 1, at(alongX ? 5 : 0, alongX ? 0 : 5, 2 * i), at(1, 1, 1));
            }
        }
        return x;
    }

    /**
     * Eleven dots behind one another on a slant along x and y, which is direction 6; part 0 bars
     * them along each axis and back along the slant. They go from 11 down to 1, then part 0.
     */
    static TogetherOrders slide() {
        TogetherOrders x = parts(12);
        block(x, 0, at(-10, -50, -5), at(1, 100, 10));
        block(x, 0, at(-50, -10, -5), at(100, 1, 10));
        block(x, 0, at(100, 0, -5), at(1, 50, 10));
        block(x, 0, at(0, 100, -5), at(50, 1, 10));
        block(x, 0, at(0, 0, -9), at(50, 50, 1));
        block(x, 0, at(0, 0, 9), at(50, 50, 1));
        for (int i = 1; i < 12; i++) {
            dot(x, i, at(3 * i, 3 * i, 0));
        }
        x.slant(1, 1, 0);
        return x;
    }

    /** Twelve items that go in the order of their numbers, in turn against x and along x. */
    static TogetherOrders zigzag() {
        TogetherOrders x = parts(12);
        for (int i = 0; i < 12; i++) {
            x.box(i, i % 2 * 5, i / 2 * 2, 0, 1, 1);
        }
        return x;
    }

    /** All that can be asked of an object of at most three parts without telling it anything. */
    static String answers(TogetherOrders x) {
        StringBuilder all = new StringBuilder();
        for (int i = 0; i < 4; i++) {
            int k = i;
            for (int j = 0; j < 3; j++) {
                int m = j;
                add(all, Due.told(() -> x.step(k, m)));
                add(all, Due.told(() -> x.clamp(k, m, 5)));
            }
            for (int way = 0; way < 7; way++) {
                int d = way;
                add(all, Due.told(() -> x.free(k, d, 7)));
            }
            add(all, Due.told(() -> x.apart(k)));
            add(all, Due.told(() -> x.locked(k)));
            add(all, Due.told(() -> x.stage(k)));
            add(all, Due.told(() -> x.out(k)));
            add(all, Due.told(() -> x.hands(2, k)));
        }
        add(all, Due.told(x::turnings));
        add(all, Due.told(() -> x.two(2)));
        add(all, Due.told(x::keeps));
        return all.toString();
    }

    private static void add(StringBuilder all, String answer) {
        all.append(answer).append(' ');
    }
}
