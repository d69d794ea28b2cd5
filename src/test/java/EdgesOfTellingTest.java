/** The boundary cases of promises 1 to 7, 17 and 19 (what needs no run), one case a method. */
public final class EdgesOfTellingTest {
    private static final Due DUE = new Due("EdgesOfTellingTest");
    private static final int NONE = TogetherOrders.NONE;
    private static final long M = 1000000;
    private static final int LEAST = Integer.MIN_VALUE;
    private static final int GREATEST = Integer.MAX_VALUE;

    public static void main(String[] args) throws IllegalAccessException {
        DUE.runCases(EdgesOfTellingTest.class);
        DUE.end();
    }

    private EdgesOfTellingTest() {
    }

    // Promise 1: A new object. No parts.

    static void promise01_noPartsOfANewObject() {
        TogetherOrders x = new TogetherOrders();
        DUE.noIndex("box", () -> x.box(0, 0, 0, 0, 1, 1));
        DUE.noIndex("deep", () -> x.deep(0, 1));
        DUE.noIndex("group", () -> x.group(0, 1));
        DUE.noIndex("free", () -> x.free(0, 0, 0));
        DUE.noIndex("glue", () -> x.glue(0, 1, 0));
        DUE.noIndex("clamp", () -> x.clamp(0, 0, 0));
        DUE.is("run", 0, x.run());
        DUE.noIndex("out", () -> x.out(0));
        DUE.noIndex("step", () -> x.step(0, 0));
        DUE.is("part", 0, x.part());
    }

    static void promise01_noSlantsOfANewObject() {
        TogetherOrders x = Things.parts(1);
        DUE.noIndex("direction 6", () -> x.free(0, 6, 0));
        for (int i = 0; i < 4; i++) {
            DUE.is("room for a slant", true, x.slant(1, 0, 0));
        }
    }

    static void promise01_noGroupsAndNoGlueOfANewObject() {
        TogetherOrders x = Things.parts(12);
        DUE.is("run", 12, x.run());
        DUE.is("keeps", true, x.keeps());
        for (int i = 0; i < 16; i++) {
            DUE.is("room for glue", true, x.glue(0, 1, 0));
        }
    }

    static void promise01_objectsShareNothing() {
        TogetherOrders x = Things.heap();
        x.slant(1, 1, 1);
        x.glue(0, 11, 0);
        x.run();
        TogetherOrders y = new TogetherOrders();
        DUE.is("first part of another object", 0, y.part());
        DUE.is("first box of another object", 0, y.box(0, 0, 0, 0, 1, 1));
        DUE.noIndex("slant of another object", () -> y.free(0, 6, 0));
        DUE.is("run of another object", 1, y.run());
        DUE.is("glue of another object", true, y.keeps());
        DUE.is("locked of the first object", 11, x.locked(11));
    }

    static void promise01_theConstant() {
        DUE.is("NONE", -1, NONE);
    }

    // Promise 2: part. IllegalStateException: there are 12.

    static void promise02_firstAndLast() {
        TogetherOrders x = new TogetherOrders();
        for (int i = 0; i < 12; i++) {
            DUE.is("part", i, x.part());
        }
    }

    static void promise02_theOneBehindTheLast() {
        TogetherOrders x = Things.parts(12);
        DUE.noState("part", x::part);
        DUE.noState("part again", x::part);
        DUE.is("part 11 is there", true, x.free(11, 0, 4095));
        DUE.noIndex("part 12 is not", () -> x.free(12, 0, 0));
        DUE.is("run", 12, x.run());
    }

    static void promise02_groupsMakeNoRoom() {
        TogetherOrders x = Things.parts(12);
        x.group(0, 1);
        DUE.noState("part", x::part);
    }

    static void promise02_withoutBoxes() {
        TogetherOrders x = Things.parts(2);
        x.box(0, 0, 0, 0, 1, 1);
        DUE.is("clamp", NONE, x.clamp(1, 1, Long.MAX_VALUE));
        for (int d = 0; d < 6; d++) {
            DUE.is("free", true, x.free(1, d, 1));
        }
        DUE.is("part told later", 2, x.part());
        DUE.is("clamp", NONE, x.clamp(2, 2, Long.MAX_VALUE));
    }

    // Promise 3: box. A place is -1000000 .. 1000000, a size 1 .. 1000000, 40 boxes.

    static void promise03_firstAndLast() {
        TogetherOrders x = Things.parts(3);
        for (int i = 0; i < 40; i++) {
            DUE.is("box", i, x.box(i % 3, i, i, i, 1, 1));
        }
        DUE.is("box 39 is there", true, x.deep(39, 2));
    }

    static void promise03_theOneBehindTheLast() {
        TogetherOrders x = Things.parts(1);
        for (int i = 0; i < 40; i++) {
            x.box(0, i, i, i, 1, 1);
        }
        DUE.noState("box 40", () -> x.box(0, 0, 0, 0, 1, 1));
        DUE.noState("box 40 again", () -> x.box(0, 0, 0, 0, 1, 1));
        DUE.noIndex("box 40 is not there", () -> x.deep(40, 2));
        DUE.is("as long as before", NONE, x.clamp(0, 0, 39));
        DUE.is("as long as before", 0, x.clamp(0, 0, 40));
    }

    private static void place(int axis, long value, boolean allowed) {
        TogetherOrders x = Things.parts(1);
        long[] p = new long[3];
        p[axis] = value;
        if (allowed) {
            DUE.is("axis " + axis + " at " + value, 0, x.box(0, p[0], p[1], p[2], 1, 1));
        } else {
            DUE.noArgument("axis " + axis + " at " + value, () -> x.box(0, p[0], p[1], p[2], 1, 1));
            DUE.is("first box", 0, x.box(0, 0, 0, 0, 1, 1));
        }
    }

    static void promise03_leastPlace() {
        for (int axis = 0; axis < 3; axis++) {
            place(axis, -M, true);
            place(axis, -M - 1, false);
        }
    }

    static void promise03_greatestPlace() {
        for (int axis = 0; axis < 3; axis++) {
            place(axis, M, true);
            place(axis, M + 1, false);
        }
    }

    /** Numbers that would be allowed if only their lower 32 bits were looked at. */
    static void promise03_placeFarBeyond() {
        long[] far = {Long.MIN_VALUE, Long.MAX_VALUE, 1L << 32, -(1L << 32), (1L << 32) + 1, (1L << 40) - 1};
        for (int axis = 0; axis < 3; axis++) {
            for (long value : far) {
                place(axis, value, false);
            }
        }
    }

    private static void size(int axis, long value, boolean allowed) {
        TogetherOrders x = Things.parts(1);
        long w = axis == 0 ? value : 7;
        long h = axis == 1 ? value : 7;
        if (allowed) {
            DUE.is("size " + axis + " of " + value, 0, x.box(0, 0, 0, 0, w, h));
        } else {
            DUE.noArgument("size " + axis + " of " + value, () -> x.box(0, 0, 0, 0, w, h));
            DUE.is("first box", 0, x.box(0, 0, 0, 0, 1, 1));
        }
    }

    static void promise03_leastSize() {
        for (int axis = 0; axis < 2; axis++) {
            size(axis, 1, true);
            size(axis, 0, false);
            size(axis, -1, false);
        }
    }

    static void promise03_greatestSize() {
        for (int axis = 0; axis < 2; axis++) {
            size(axis, M, true);
            size(axis, M + 1, false);
        }
    }

    static void promise03_sizeFarBeyond() {
        long[] far = {Long.MIN_VALUE, Long.MAX_VALUE, (1L << 32) + 1, -(1L << 32) + 1, -M};
        for (int axis = 0; axis < 2; axis++) {
            for (long value : far) {
                size(axis, value, false);
            }
        }
    }

    /** The end of a box may lie beyond the greatest place. */
    static void promise03_greatestPlaceAndSize() {
        TogetherOrders x = Things.parts(2);
        x.box(0, M, M, M, M, M);
        DUE.is("clamp", 0, x.clamp(0, 0, M));
        DUE.is("deep", true, x.deep(0, M));
        x.box(1, -M, -M, -M, 1, 1);
        DUE.is("together", 0, x.clamp(0, 1, 3 * M));
        DUE.is("together", NONE, x.clamp(0, 1, 3 * M - 1));
    }

    static void promise03_noSuchPart() {
        TogetherOrders x = Things.parts(2);
        int[] none = {-1, 2, 12, LEAST, GREATEST};
        for (int part : none) {
            DUE.noIndex("box of part " + part, () -> x.box(part, 0, 0, 0, 1, 1));
        }
        DUE.is("first box", 0, x.box(1, 0, 0, 0, 1, 1));
    }

    static void promise03_partBeforeNumbers() {
        TogetherOrders x = Things.parts(1);
        DUE.noIndex("place", () -> x.box(1, M + 1, 0, 0, 1, 1));
        DUE.noIndex("size", () -> x.box(-1, 0, 0, 0, 0, 0));
    }

    static void promise03_partBeforeRoomBeforeNumbers() {
        TogetherOrders x = Things.parts(1);
        for (int i = 0; i < 40; i++) {
            x.box(0, i, 0, 0, 1, 1);
        }
        DUE.noIndex("part and room", () -> x.box(1, 0, 0, 0, 1, 1));
        DUE.noIndex("part, room and place", () -> x.box(-1, M + 1, 0, 0, 1, 1));
        DUE.noState("room and place", () -> x.box(0, M + 1, 0, 0, 1, 1));
        DUE.noState("room and size", () -> x.box(0, 0, 0, 0, 1, 0));
    }

    // Promise 4: deep. 1 .. 1000000.

    static void promise04_leastSize() {
        TogetherOrders x = Things.parts(1);
        x.box(0, 0, 0, 0, 9, 9);
        x.deep(0, 2);
        DUE.is("deep(0, 1)", true, x.deep(0, 1));
        DUE.noArgument("deep(0, 0)", () -> x.deep(0, 0));
        DUE.noArgument("deep(0, -1)", () -> x.deep(0, -1));
        DUE.is("still 1", false, x.deep(0, 1));
        DUE.is("clamp", 2, x.clamp(0, 0, 1));
    }

    static void promise04_greatestSize() {
        TogetherOrders x = Things.parts(1);
        x.box(0, 0, 0, 0, M, M);
        DUE.is("deep(0, M)", true, x.deep(0, M));
        DUE.noArgument("deep(0, M + 1)", () -> x.deep(0, M + 1));
        DUE.is("still M", false, x.deep(0, M));
        DUE.is("clamp", NONE, x.clamp(0, 0, M - 1));
    }

    static void promise04_sizeFarBeyond() {
        TogetherOrders x = Things.parts(1);
        x.box(0, 0, 0, 0, 1, 1);
        long[] far = {Long.MIN_VALUE, Long.MAX_VALUE, (1L << 32) + 1, (1L << 32) + 2, -M};
        for (long d : far) {
            DUE.noArgument("deep(0, " + d + ")", () -> x.deep(0, d));
        }
        DUE.is("still 1", false, x.deep(0, 1));
    }

    static void promise04_whetherItWasAnother() {
        TogetherOrders x = Things.parts(1);
        x.box(0, 0, 0, 0, 5, 7);
        DUE.is("1 at first", false, x.deep(0, 1));
        DUE.is("2", true, x.deep(0, 2));
        DUE.is("2 again", false, x.deep(0, 2));
        DUE.is("3", true, x.deep(0, 3));
        DUE.is("back to 2", true, x.deep(0, 2));
        DUE.is("as wide as told", true, x.deep(0, 5));
        DUE.is("as high as told", true, x.deep(0, 7));
    }

    static void promise04_noSuchBox() {
        TogetherOrders x = Things.parts(1);
        DUE.noIndex("without boxes", () -> x.deep(0, 1));
        x.box(0, 0, 0, 0, 1, 1);
        x.box(0, 0, 0, 0, 1, 1);
        int[] none = {-1, 2, 40, LEAST, GREATEST};
        for (int box : none) {
            DUE.noIndex("deep(" + box + ", 2)", () -> x.deep(box, 2));
        }
        DUE.is("last box", true, x.deep(1, 2));
        DUE.is("the other box is as before", false, x.deep(0, 1));
    }

    static void promise04_boxBeforeSize() {
        TogetherOrders x = Things.parts(1);
        DUE.noIndex("deep(0, 0)", () -> x.deep(0, 0));
        x.box(0, 0, 0, 0, 1, 1);
        DUE.noIndex("deep(1, 0)", () -> x.deep(1, 0));
        DUE.noIndex("deep(-1, M + 1)", () -> x.deep(-1, M + 1));
    }

    // Promise 5: slant. Room for 4, each number -1000 .. 1000, not all 0.

    private static TogetherOrders slanted(int axis, long value) {
        TogetherOrders x = Things.parts(2);
        Things.dot(x, 0, Things.at(0, 0, 0));
        Things.dot(x, 1, Things.at(axis == 0 ? Long.signum(value) * 9 : 0, axis == 1 ? Long.signum(value) * 9 : 0,
            axis == 2 ? Long.signum(value) * 9 : 0));
        return x;
    }

    private static boolean tellSlant(TogetherOrders x, int axis, long value) {
        return x.slant(axis == 0 ? value : 0, axis == 1 ? value : 0, axis == 2 ? value : 0);
    }

    static void promise05_leastAndGreatestNumber() {
        long[] allowed = {-1000, -1, 1, 1000};
        for (int axis = 0; axis < 3; axis++) {
            for (long value : allowed) {
                TogetherOrders x = slanted(axis, value);
                DUE.is("axis " + axis + ": " + value, true, tellSlant(x, axis, value));
                DUE.is("goes there", false, x.free(0, 6, 2));
                DUE.is("goes not back", true, x.free(1, 6, 1));
            }
        }
    }

    static void promise05_numberBeyond() {
        long[] beyond = {-1001, 1001, Long.MIN_VALUE, Long.MAX_VALUE, 1L << 32, (1L << 32) + 1, -(1L << 32) - 1};
        for (int axis = 0; axis < 3; axis++) {
            for (long value : beyond) {
                TogetherOrders x = slanted(axis, value);
                int which = axis;
                DUE.noArgument("axis " + axis + ": " + value, () -> tellSlant(x, which, value));
                DUE.noIndex("is no direction", () -> x.free(0, 6, 2));
            }
        }
    }

    static void promise05_numberBeyondBesideAllowedOnes() {
        TogetherOrders x = Things.parts(1);
        DUE.noArgument("x", () -> x.slant(1001, 1000, -1000));
        DUE.noArgument("y", () -> x.slant(1000, -1001, 1000));
        DUE.noArgument("z", () -> x.slant(-1000, 1000, 1001));
        DUE.is("all just allowed", true, x.slant(1000, -1000, 1000));
    }

    static void promise05_all0() {
        TogetherOrders x = Things.parts(1);
        DUE.noArgument("slant(0, 0, 0)", () -> x.slant(0, 0, 0));
        DUE.noIndex("is no direction", () -> x.free(0, 6, 0));
    }

    static void promise05_two0() {
        TogetherOrders x = Things.parts(1);
        DUE.is("z", true, x.slant(0, 0, 1));
        DUE.is("y", true, x.slant(0, -1, 0));
        DUE.is("x", true, x.slant(1, 0, 0));
        DUE.is("sum 0", true, x.slant(1, -1, 0));
    }

    static void promise05_lastOneAndTheOneBehind() {
        TogetherOrders x = Things.parts(1);
        for (int i = 0; i < 4; i++) {
            DUE.is("slant " + i, true, x.slant(1, 2, 3));
        }
        DUE.is("slant 4", false, x.slant(3, 2, 1));
        DUE.is("slant 4 again", false, x.slant(1, 2, 3));
        DUE.is("direction 9", true, x.free(0, 9, 1));
        DUE.noIndex("direction 10", () -> x.free(0, 10, 1));
    }

    static void promise05_theOneBehindReplacesNone() {
        long[][] ways = {{1, 0, 0}, {0, 1, 0}, {0, 0, 1}, {-1, 0, 0}};
        TogetherOrders x = Things.parts(2);
        Things.dot(x, 0, Things.at(0, 0, 0));
        Things.dot(x, 1, Things.at(0, -9, 0));
        for (long[] way : ways) {
            x.slant(way[0], way[1], way[2]);
        }
        x.slant(0, -1, 0);
        for (int d = 6; d < 10; d++) {
            DUE.is("direction " + d, true, x.free(0, d, 2));
        }
    }

    static void promise05_wrongOnesTakeNoRoomAndThrowAlsoWithoutRoom() {
        TogetherOrders x = Things.parts(1);
        for (int i = 0; i < 4; i++) {
            DUE.noArgument("0, 0, 0", () -> x.slant(0, 0, 0));
            DUE.noArgument("1001", () -> x.slant(0, 1001, 0));
            DUE.is("room", true, x.slant(i, 1, 0));
        }
        DUE.noArgument("0, 0, 0, no room", () -> x.slant(0, 0, 0));
        DUE.noArgument("-1001, no room", () -> x.slant(0, 0, -1001));
    }

    // Promise 6: group.

    static void promise06_firstAndLastPart() {
        TogetherOrders x = Things.parts(12);
        DUE.is("group(11, 0)", true, x.group(11, 0));
        DUE.is("group(0, 11)", false, x.group(0, 11));
        DUE.is("run", 11, x.run());
        DUE.is("bits", 2049, x.step(10, 2));
    }

    static void promise06_noSuchPart() {
        TogetherOrders x = Things.parts(2);
        int[] none = {-1, 2, 12, LEAST, GREATEST};
        for (int part : none) {
            DUE.noIndex("first " + part, () -> x.group(part, 1));
            DUE.noIndex("second " + part, () -> x.group(1, part));
        }
        DUE.is("run", 2, x.run());
    }

    static void promise06_same() {
        TogetherOrders x = Things.parts(2);
        DUE.noArgument("group(0, 0)", () -> x.group(0, 0));
        DUE.noArgument("group(1, 1)", () -> x.group(1, 1));
        DUE.is("group(0, 1)", true, x.group(0, 1));
        DUE.noArgument("group(1, 1) of a group", () -> x.group(1, 1));
    }

    static void promise06_noSuchPartBeforeSame() {
        TogetherOrders x = Things.parts(2);
        DUE.noIndex("group(2, 2)", () -> x.group(2, 2));
        DUE.noIndex("group(-1, -1)", () -> x.group(-1, -1));
    }

    static void promise06_whetherTheyWereNot() {
        TogetherOrders x = Things.parts(4);
        DUE.is("told", true, x.group(0, 1));
        DUE.is("told again", false, x.group(0, 1));
        DUE.is("told the other way round", false, x.group(1, 0));
        DUE.is("other two", true, x.group(2, 3));
        DUE.is("both groups", true, x.group(3, 0));
        DUE.is("hang together", false, x.group(1, 2));
        DUE.is("run", 1, x.run());
    }

    // Promise 7: free.

    static void promise07_noSuchPart() {
        TogetherOrders x = Things.parts(2);
        int[] none = {-1, 2, 12, LEAST, GREATEST};
        for (int part : none) {
            DUE.noIndex("free(" + part + ", 0, 0)", () -> x.free(part, 0, 0));
        }
    }

    static void promise07_noSuchDirection() {
        TogetherOrders x = Things.parts(2);
        int[] none = {-1, 6, LEAST, GREATEST};
        for (int d : none) {
            DUE.noIndex("free(0, " + d + ", 0)", () -> x.free(0, d, 0));
        }
        DUE.is("free(0, 5, 0)", true, x.free(0, 5, 0));
    }

    static void promise07_bitOfNoPart() {
        for (int n = 1; n <= 12; n++) {
            TogetherOrders x = Things.parts(n);
            DUE.is("all bits of " + n, true, x.free(n - 1, 0, (1L << n) - 1));
            for (int i = n; i < 64; i++) {
                long bits = 1L << i;
                DUE.noArgument("bit " + i + " of " + n, () -> x.free(0, 0, bits));
                DUE.noArgument("bit " + i + " of " + n + " beside a right one", () -> x.free(0, 0, bits | 1));
            }
            DUE.noArgument("all bits", () -> x.free(0, 0, -1));
        }
    }

    static void promise07_noBits() {
        TogetherOrders x = Things.heap();
        DUE.is("free(0, 0, 0)", true, x.free(0, 0, 0));
    }

    static void promise07_itself() {
        TogetherOrders x = Things.heap();
        x.box(5, 20, 0, 0, 9, 9);
        DUE.is("its own boxes bar it not", true, x.free(5, 0, 1 << 5));
        DUE.is("beside another one", false, x.free(5, 0, 1 << 5 | 1 << 11));
    }

    static void promise07_eachBitIsItsPart() {
        TogetherOrders x = Things.parts(12);
        x.box(0, 0, 0, 0, 1, 1);
        for (int i = 1; i < 12; i++) {
            x.box(i, i % 2 == 0 ? 20 + i : -20 - i, 0, 0, 1, 1);
        }
        for (int i = 1; i < 12; i++) {
            DUE.is("along x, part " + i, i % 2 == 1, x.free(0, 0, 1L << i));
            DUE.is("against x, part " + i, i % 2 == 0, x.free(0, 1, 1L << i));
        }
        DUE.is("all odd ones along x", true, x.free(0, 0, 0xaaa));
        DUE.is("all even ones along x", false, x.free(0, 0, 0x555));
    }

    static void promise07_partsOfItsGroupBarIt() {
        TogetherOrders x = Things.lockedPair();
        x.group(0, 1);
        DUE.is("free(1, 0, 1)", false, x.free(1, 0, 1));
        DUE.is("free(0, 0, 2)", false, x.free(0, 0, 2));
    }

    static void promise07_otherPartsOfItsGroupAreNotLookedAt() {
        TogetherOrders x = Things.parts(3);
        x.box(0, 0, 0, 0, 1, 1);
        x.box(1, 0, 5, 0, 1, 1);
        x.box(2, 9, 5, 0, 1, 1);
        x.group(0, 1);
        DUE.is("part 0 alone", true, x.free(0, 0, 4));
        DUE.is("part 1 alone", false, x.free(1, 0, 4));
    }

    static void promise07_partAndDirectionBeforeBits() {
        TogetherOrders x = Things.parts(2);
        DUE.noIndex("part", () -> x.free(2, 0, 4));
        DUE.noIndex("part", () -> x.free(-1, 0, -1));
        DUE.noIndex("direction", () -> x.free(0, 6, 4));
        DUE.noIndex("direction", () -> x.free(0, -1, Long.MIN_VALUE));
    }

    static void promise07_needsNoRun() {
        TogetherOrders x = Things.parts(2);
        x.box(0, 0, 0, 0, 1, 1);
        DUE.is("free", true, x.free(0, 0, 2));
        x.box(1, 5, 0, 0, 1, 1);
        DUE.is("barred at once", false, x.free(0, 0, 2));
        x.run();
        x.box(1, 0, 5, 0, 1, 1);
        DUE.is("barred at once, run before", false, x.free(0, 2, 2));
    }

    // Promise 17: glue. Room for 16, minutes 0 .. 1000.

    static void promise17_leastAndGreatestMinutes() {
        TogetherOrders x = Things.parts(2);
        DUE.is("0", true, x.glue(0, 1, 0));
        DUE.is("1000", true, x.glue(0, 1, 1000));
    }

    static void promise17_minutesBeyond() {
        TogetherOrders x = Things.parts(2);
        int[] beyond = {-1, 1001, LEAST, GREATEST};
        for (int minutes : beyond) {
            DUE.noArgument("glue(0, 1, " + minutes + ")", () -> x.glue(0, 1, minutes));
        }
        x.run();
        DUE.is("nothing is glued", true, x.keeps());
    }

    static void promise17_lastOneAndTheOneBehind() {
        TogetherOrders x = Things.parts(12);
        for (int i = 0; i < 16; i++) {
            DUE.is("glue " + i, true, x.glue(i % 11, 11, 1000));
        }
        DUE.is("glue 16", false, x.glue(0, 1, 1000));
        DUE.is("glue 16 again", false, x.glue(0, 1, 1000));
    }

    static void promise17_theOneBehindIsNotGlued() {
        TogetherOrders x = Things.parts(12);
        x.run();
        for (int i = 0; i < 16; i++) {
            x.glue(0, 11, 11);
        }
        x.glue(0, 11, 10);
        DUE.is("keeps", true, x.keeps());
    }

    static void promise17_samePairTakesRoomEachTime() {
        TogetherOrders x = Things.parts(2);
        for (int i = 0; i < 8; i++) {
            DUE.is("told", true, x.glue(0, 1, 5));
            DUE.is("the other way round", true, x.glue(1, 0, 5));
        }
        DUE.is("no room", false, x.glue(0, 1, 5));
    }

    static void promise17_noSuchPart() {
        TogetherOrders x = Things.parts(2);
        int[] none = {-1, 2, 12, LEAST, GREATEST};
        for (int part : none) {
            DUE.noIndex("first " + part, () -> x.glue(part, 1, 0));
            DUE.noIndex("second " + part, () -> x.glue(1, part, 0));
        }
    }

    static void promise17_same() {
        TogetherOrders x = Things.parts(2);
        DUE.noArgument("glue(0, 0, 0)", () -> x.glue(0, 0, 0));
        DUE.noArgument("glue(1, 1, 1000)", () -> x.glue(1, 1, 1000));
    }

    static void promise17_noSuchPartBeforeTheRest() {
        TogetherOrders x = Things.parts(2);
        DUE.noIndex("same", () -> x.glue(2, 2, 0));
        DUE.noIndex("minutes", () -> x.glue(0, 2, -1));
        DUE.noIndex("minutes", () -> x.glue(-1, 0, 1001));
    }

    static void promise17_wrongOnesTakeNoRoomAndThrowAlsoWithoutRoom() {
        TogetherOrders x = Things.parts(2);
        for (int i = 0; i < 16; i++) {
            DUE.noArgument("same", () -> x.glue(0, 0, 0));
            DUE.noArgument("minutes", () -> x.glue(0, 1, 1001));
            DUE.noIndex("part", () -> x.glue(0, 2, 0));
            DUE.is("room", true, x.glue(0, 1, i));
        }
        DUE.noArgument("same, no room", () -> x.glue(0, 0, 0));
        DUE.noArgument("minutes, no room", () -> x.glue(0, 1, -1));
        DUE.noIndex("part, no room", () -> x.glue(0, 2, 0));
    }

    static void promise17_partsOfOneGroup() {
        TogetherOrders x = Things.parts(2);
        x.group(0, 1);
        DUE.is("glue", true, x.glue(0, 1, 0));
    }

    // Promise 19: clamp.

    /** Two parts, together 7 along x, 5 along y, 3 along z. */
    private static TogetherOrders clamped() {
        TogetherOrders x = Things.parts(3);
        Things.block(x, 0, Things.at(-4, 2, -1), Things.at(2, 5, 1));
        Things.block(x, 1, Things.at(1, 3, -2), Things.at(2, 1, 3));
        return x;
    }

    static void promise19_justSoFarInEachAxis() {
        TogetherOrders x = clamped();
        DUE.is("7", 0, x.clamp(0, 1, 7));
        DUE.is("6", 1, x.clamp(0, 1, 6));
        DUE.is("5", 1, x.clamp(0, 1, 5));
        DUE.is("4", 2, x.clamp(0, 1, 4));
        DUE.is("3", 2, x.clamp(0, 1, 3));
        DUE.is("2", NONE, x.clamp(0, 1, 2));
        DUE.is("the other way round", 1, x.clamp(1, 0, 6));
    }

    static void promise19_leastReach() {
        TogetherOrders x = clamped();
        DUE.is("0", NONE, x.clamp(0, 1, 0));
        DUE.noArgument("-1", () -> x.clamp(0, 1, -1));
        DUE.noArgument("least", () -> x.clamp(0, 1, Long.MIN_VALUE));
        DUE.noArgument("of no boxes", () -> x.clamp(0, 2, -1));
    }

    static void promise19_greatestReach() {
        TogetherOrders x = clamped();
        DUE.is("greatest", 0, x.clamp(0, 1, Long.MAX_VALUE));
        DUE.is("beyond 32 bits", 0, x.clamp(0, 1, 1L << 32));
        DUE.is("beyond 31 bits", 0, x.clamp(0, 1, 1L << 31));
    }

    static void promise19_greatestExtent() {
        TogetherOrders x = Things.parts(2);
        Things.block(x, 0, Things.at(-M, -M, -M), Things.at(1, 1, 1));
        Things.block(x, 1, Things.at(M, M, M), Things.at(M, M, M));
        DUE.is("3 M", 0, x.clamp(0, 1, 3 * M));
        DUE.is("3 M - 1", NONE, x.clamp(0, 1, 3 * M - 1));
    }

    static void promise19_oneHasNoBoxes() {
        TogetherOrders x = clamped();
        DUE.is("second", NONE, x.clamp(0, 2, Long.MAX_VALUE));
        DUE.is("first", NONE, x.clamp(2, 0, Long.MAX_VALUE));
        DUE.is("both", NONE, x.clamp(2, 2, Long.MAX_VALUE));
    }

    static void promise19_samePart() {
        TogetherOrders x = clamped();
        DUE.is("2", 0, x.clamp(0, 0, 2));
        DUE.is("1", 2, x.clamp(0, 0, 1));
        DUE.is("1 of part 1", 1, x.clamp(1, 1, 1));
    }

    static void promise19_allBoxesOfBoth() {
        TogetherOrders x = clamped();
        x.box(0, 30, 2, -1, 1, 1);
        x.box(2, -90, -90, -90, 1, 1);
        DUE.is("from -4 to 31", 0, x.clamp(0, 1, 35));
        DUE.is("from -4 to 31", 1, x.clamp(0, 1, 34));
    }

    /** The greatest end need not be the end of the box that begins last. */
    static void promise19_oneWithinTheOther() {
        TogetherOrders x = Things.parts(2);
        Things.block(x, 0, Things.at(0, 0, 0), Things.at(9, 8, 7));
        Things.block(x, 1, Things.at(3, 3, 3), Things.at(1, 1, 1));
        DUE.is("9", 0, x.clamp(0, 1, 9));
        DUE.is("8", 1, x.clamp(1, 0, 8));
        DUE.is("7", 2, x.clamp(0, 1, 7));
        DUE.is("6", NONE, x.clamp(1, 0, 6));
    }

    static void promise19_noSuchPart() {
        TogetherOrders x = clamped();
        int[] none = {-1, 3, 12, LEAST, GREATEST};
        for (int part : none) {
            DUE.noIndex("first " + part, () -> x.clamp(part, 0, 1));
            DUE.noIndex("second " + part, () -> x.clamp(0, part, 1));
            DUE.noIndex("before reach", () -> x.clamp(part, 0, -1));
            DUE.noIndex("before reach", () -> x.clamp(0, part, -1));
            DUE.noIndex("before no boxes", () -> x.clamp(2, part, 1));
        }
    }

    static void promise19_groupsDoNotCount() {
        TogetherOrders x = clamped();
        x.box(2, 500, 500, 500, 1, 1);
        x.group(0, 2);
        DUE.is("7", 0, x.clamp(0, 1, 7));
    }
}
