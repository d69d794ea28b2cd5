/** Each promise of the document: ordinary inputs, the edges that it names, and wrong inputs. */
public final class PromisesTest {
    private static final Due DUE = new Due("PromisesTest");
    private static final int NONE = TogetherOrders.NONE;
    private static final long M = 1000000;

    public static void main(String[] args) {
        promise1();
        promise2();
        promise3();
        promise4();
        promise5();
        promise6();
        promise7();
        promise7Slants();
        promise7Exact();
        promise8();
        promise9();
        promise10();
        promise11();
        promise12();
        promise13();
        promise13NeedsDirections();
        promise14();
        promise14TwoMoves();
        promise14Slant();
        promise14Overlaps();
        promise15();
        promise16();
        promise17();
        promise18();
        promise19();
        DUE.end();
    }

    private static void promise1() {
        TogetherOrders x = new TogetherOrders();
        DUE.is("1: NONE", -1, NONE);
        DUE.noState("1: step before run", () -> x.step(0, 0));
        DUE.noState("1: apart before run", () -> x.apart(0));
        DUE.noState("1: locked before run", () -> x.locked(0));
        DUE.noState("1: stage before run", () -> x.stage(0));
        DUE.noState("1: turnings before run", x::turnings);
        DUE.noState("1: two before run", () -> x.two(0));
        DUE.noState("1: hands before run", () -> x.hands(1, 0));
        DUE.noState("1: out before run", () -> x.out(0));
        DUE.noState("1: keeps before run", () -> x.keeps());
        DUE.noIndex("1: free of no part", () -> x.free(0, 0, 0));
        DUE.noIndex("1: group of no parts", () -> x.group(0, 0));
        DUE.noIndex("1: glue of no parts", () -> x.glue(0, 0, -1));
        DUE.noIndex("1: clamp of no parts", () -> x.clamp(0, 0, -1));
        DUE.noIndex("1: box of no part", () -> x.box(0, 0, 0, 0, 0, 0));
        DUE.noIndex("1: deep of no box", () -> x.deep(0, 0));
        DUE.is("1: run", 0, x.run());
        DUE.noIndex("1: no step", () -> x.step(0, 9));
        DUE.is("1: apart", NONE, x.apart(0));
        DUE.is("1: locked", NONE, x.locked(0));
        DUE.is("1: stage", NONE, x.stage(0));
        DUE.is("1: turnings", 0, x.turnings());
        DUE.is("1: two", 0, x.two(2));
        DUE.is("1: hands", 0, x.hands(12, 0));
        DUE.is("1: keeps", true, x.keeps());
        DUE.noIndex("1: out", () -> x.out(0));
    }

    private static void promise2() {
        TogetherOrders x = new TogetherOrders();
        for (int i = 0; i < 12; i++) {
            DUE.is("2: part", i, x.part());
        }
        DUE.noState("2: part 12", x::part);
        DUE.noState("2: part 12 again", x::part);
        DUE.is("2: run of parts without boxes", 12, x.run());
        for (int i = 0; i < 12; i++) {
            DUE.is("2: apart", i, x.apart(i));
            DUE.is("2: way", 0, x.step(i, 1));
        }
        DUE.noState("2: part 12 after run", x::part);
        DUE.is("2: still run", 0, x.turnings());
    }

    private static void promise3() {
        TogetherOrders x = Things.parts(2);
        DUE.is("3: first", 0, x.box(1, -M, -M, -M, M, M));
        DUE.is("3: second", 1, x.box(0, M, M, M, 1, 1));
        DUE.noIndex("3: part -1", () -> x.box(-1, 0, 0, 0, 1, 1));
        DUE.noIndex("3: part 2", () -> x.box(2, M + 1, 0, 0, 1, 1));
        long[][] bad = {
            {M + 1, 0, 0, 1, 1}, {-M - 1, 0, 0, 1, 1}, {0, M + 1, 0, 1, 1}, {0, -M - 1, 0, 1, 1},
            {0, 0, M + 1, 1, 1}, {0, 0, -M - 1, 1, 1}, {0, 0, 0, 0, 1}, {0, 0, 0, M + 1, 1},
            {0, 0, 0, 1, 0}, {0, 0, 0, 1, M + 1}, {0, 0, 0, -1, 1}, {0, 0, 0, 1, Long.MIN_VALUE},
            {Long.MIN_VALUE, 0, 0, 1, 1}, {0, Long.MAX_VALUE, 0, 1, 1}, {4294967296L, 0, 0, 1, 1}
        };
        for (long[] b : bad) {
            DUE.noArgument("3: a number is not as said", () -> x.box(0, b[0], b[1], b[2], b[3], b[4]));
        }
        for (int i = 2; i < 40; i++) {
            DUE.is("3: box", i, x.box(i % 2, i, 0, 0, 1, 1));
        }
        DUE.noState("3: box 40", () -> x.box(0, 0, 0, 0, 1, 1));
        DUE.noState("3: box 40, wrong size", () -> x.box(0, 0, 0, 0, 0, 1));
        DUE.noIndex("3: box 40, no part", () -> x.box(2, 0, 0, 0, 0, 1));
    }

    private static void promise4() {
        TogetherOrders x = Things.parts(2);
        x.box(0, 0, 0, 0, 1, 1);
        x.box(1, 0, 0, 2, 1, 1);
        DUE.is("4: 1 at first", false, x.deep(0, 1));
        DUE.is("4: not barred along x", true, x.free(0, 0, 2));
        DUE.is("4: 3", true, x.deep(0, 3));
        DUE.is("4: 3 again", false, x.deep(0, 3));
        DUE.is("4: barred along x", false, x.free(0, 0, 2));
        DUE.is("4: 2, touching", true, x.deep(0, 2));
        DUE.is("4: touching is free", true, x.free(0, 0, 2));
        DUE.is("4: greatest", true, x.deep(1, M));
        DUE.noIndex("4: box -1", () -> x.deep(-1, 1));
        DUE.noIndex("4: box 2", () -> x.deep(2, 0));
        DUE.noArgument("4: 0", () -> x.deep(0, 0));
        DUE.noArgument("4: -1", () -> x.deep(0, -1));
        DUE.noArgument("4: too great", () -> x.deep(0, M + 1));
        DUE.noArgument("4: far too great", () -> x.deep(0, Long.MAX_VALUE));
        DUE.is("4: unchanged", false, x.deep(0, 2));
        DUE.is("4: unchanged", false, x.deep(1, M));
    }

    private static void promise5() {
        TogetherOrders x = Things.parts(1);
        DUE.noIndex("5: direction 6 is not told", () -> x.free(0, 6, 0));
        DUE.noArgument("5: all 0", () -> x.slant(0, 0, 0));
        long[] bad = {1001, -1001, Long.MAX_VALUE, Long.MIN_VALUE, 4294967297L};
        for (long b : bad) {
            DUE.noArgument("5: x", () -> x.slant(b, 0, 0));
            DUE.noArgument("5: y", () -> x.slant(0, b, 0));
            DUE.noArgument("5: z", () -> x.slant(0, 0, b));
        }
        DUE.noIndex("5: still not", () -> x.free(0, 6, 0));
        DUE.is("5: first", true, x.slant(1000, -1000, 1000));
        DUE.is("5: direction 6", true, x.free(0, 6, 1));
        DUE.noIndex("5: direction 7", () -> x.free(0, 7, 0));
        DUE.is("5: same again is one more", true, x.slant(1000, -1000, 1000));
        DUE.is("5: third", true, x.slant(0, 0, 1));
        DUE.is("5: fourth", true, x.slant(-1000, 0, 0));
        DUE.is("5: direction 9", true, x.free(0, 9, 1));
        DUE.is("5: no room", false, x.slant(1, 1, 1));
        DUE.noArgument("5: no room, all 0", () -> x.slant(0, 0, 0));
        DUE.noIndex("5: direction 10", () -> x.free(0, 10, 0));
    }

    private static void promise6() {
        TogetherOrders x = Things.parts(6);
        DUE.is("6: 4 and 2", true, x.group(4, 2));
        DUE.is("6: again", false, x.group(4, 2));
        DUE.is("6: other way", false, x.group(2, 4));
        DUE.is("6: 5 and 3", true, x.group(5, 3));
        DUE.is("6: run", 4, x.run());
        DUE.is("6: item", 3, x.apart(3));
        DUE.is("6: bits", 40, x.step(0, 2));
        DUE.is("6: item", 2, x.apart(2));
        DUE.is("6: bits", 20, x.step(1, 2));
        DUE.is("6: 4 and 5", true, x.group(4, 5));
        DUE.is("6: hang together", false, x.group(2, 3));
        DUE.is("6: run", 3, x.run());
        DUE.is("6: bits", 60, x.step(0, 2));
        DUE.is("6: item has its least part's number", 2, x.step(0, 0));
        DUE.is("6: 5 and 0", true, x.group(5, 0));
        DUE.is("6: run", 2, x.run());
        DUE.is("6: bits", 61, x.step(1, 2));
        DUE.is("6: item", 0, x.step(1, 0));
        DUE.noArgument("6: same", () -> x.group(1, 1));
        DUE.noIndex("6: 6", () -> x.group(6, 6));
        DUE.noIndex("6: -1", () -> x.group(0, -1));
        DUE.noIndex("6: -1", () -> x.group(-1, 0));
    }

    private static void promise7() {
        TogetherOrders x = Things.parts(3);
        x.box(0, 0, 0, 0, 2, 2);
        x.box(1, 5, 1, 0, 2, 2);
        boolean[] want = {false, true, true, true, true, true};
        for (int d = 0; d < 6; d++) {
            DUE.is("7: direction " + d, want[d], x.free(0, d, 7));
        }
        boolean[] back = {true, false, true, true, true, true};
        for (int d = 0; d < 6; d++) {
            DUE.is("7: back, direction " + d, back[d], x.free(1, d, 7));
        }
        DUE.is("7: only those told bar", true, x.free(0, 0, 5));
        DUE.is("7: none told", true, x.free(0, 0, 0));
        x.group(0, 1);
        DUE.is("7: one of its group bars it too", false, x.free(0, 0, 2));
        x.box(2, 0, 2, 0, 2, 1);
        DUE.is("7: touching bars against it", false, x.free(0, 2, 4));
        DUE.is("7: touching, other way", true, x.free(0, 3, 4));
        DUE.is("7: touching, beside it", true, x.free(0, 0, 4));
        x.box(2, 1, 1, 0, 1, 1);
        for (int d = 0; d < 6; d++) {
            DUE.is("7: what overlaps bars each way", false, x.free(0, d, 4));
        }
        DUE.noIndex("7: part 3", () -> x.free(3, 0, -1));
        DUE.noIndex("7: part -1", () -> x.free(-1, 0, 0));
        DUE.noIndex("7: direction -1", () -> x.free(0, -1, 8));
        DUE.noIndex("7: direction 6", () -> x.free(0, 6, 8));
        DUE.noArgument("7: bit 3", () -> x.free(0, 0, 8));
        DUE.noArgument("7: bit 63", () -> x.free(0, 0, Long.MIN_VALUE));
        DUE.noArgument("7: bit 32", () -> x.free(0, 0, 1L << 32));
        DUE.noArgument("7: bit 32 and some", () -> x.free(0, 0, (1L << 32) + 1));
    }

    private static void promise7Slants() {
        TogetherOrders x = Things.parts(2);
        x.box(0, 0, 0, 0, 1, 1);
        x.box(1, 2, 0, 0, 1, 1);
        x.slant(1, 1, 0);
        DUE.is("7: passes corner to corner", true, x.free(0, 6, 2));
        x.slant(2, 1, 0);
        DUE.is("7: hits", false, x.free(0, 7, 2));
        DUE.is("7: a slant has no other side", true, x.free(1, 7, 1));
        x.slant(-2, -1, 0);
        DUE.is("7: hits from there", false, x.free(1, 8, 1));
        x.slant(2, 1, 2);
        DUE.is("7: has risen before it is there", true, x.free(0, 9, 2));
        TogetherOrders y = Things.parts(2);
        y.box(0, 0, 0, 0, 1, 1);
        y.box(1, 1, 10, 0, 10, 1);
        y.slant(3, 7, 0);
        DUE.is("7: only between whole times", false, y.free(0, 6, 2));
    }

    /** Fractions that lie so near to one another that rounding would lose it. */
    private static void promise7Exact() {
        TogetherOrders x = Things.parts(3);
        x.box(0, 0, 0, 0, 1, 1);
        x.box(1, 999001, 998001, 0, 1, 1);
        x.slant(1000, 999, 0);
        // In x from 999000 / 1000 to 999002 / 1000, in y from 998000 / 999 to 998002 / 999.
        DUE.is("7: overlap of the times", false, x.free(0, 6, 2));
        x.box(2, 1000000, 998998, 0, 1, 1);
        // In x from 999.999 on, in y until 998999 / 999, which is 999.99899..
        DUE.is("7: the times just miss", true, x.free(0, 6, 4));
        x.slant(1000, 1, 0);
        TogetherOrders y = Things.parts(2);
        y.box(0, -M, -M, -M, M, M);
        y.deep(0, M);
        y.box(1, M, M, M, M, M);
        y.slant(1000, 1000, 1000);
        y.slant(1000, 333, 999);
        y.slant(1000, 334, 999);
        DUE.is("7: from corner to corner", false, y.free(0, 6, 2));
        // In x from 1000 to 3000, in y from 1000000 / 333 = 3003.003.. on.
        DUE.is("7: too slow in y", true, y.free(0, 7, 2));
        // In y from 1000000 / 334 = 2994.01.. on, but in z only until 2000001 / 999 = 2002.003..
        DUE.is("7: too soon in z", true, y.free(0, 8, 2));
        y.deep(1, M);
        DUE.is("7: not too soon in z", false, y.free(0, 8, 2));
    }

    private static void promise8() {
        TogetherOrders x = Things.cup();
        DUE.is("8: cup", 3, x.run());
        DUE.is("8: cup again", 3, x.run());
        TogetherOrders y = Things.lockedPair();
        DUE.is("8: locked", 0, y.run());
        y.part();
        DUE.is("8: locked with one that goes", 0, y.run());
        y.group(0, 1);
        DUE.is("8: one item of both", 2, y.run());
        TogetherOrders z = Things.cup();
        z.group(0, 2);
        DUE.is("8: cup and lid are one", 0, z.run());
    }

    private static void promise9() {
        TogetherOrders x = Things.cup();
        DUE.noState("9: not run", () -> x.step(-1, 9));
        x.run();
        // The cup goes against z, the thing then along x, the lid along x.
        DUE.is("9: last taken is first put", 2, x.step(0, 0));
        DUE.is("9: its direction", 0, x.step(0, 1));
        DUE.is("9: its parts", 4, x.step(0, 2));
        DUE.is("9: second", 1, x.step(1, 0));
        DUE.is("9: its direction", 0, x.step(1, 1));
        DUE.is("9: its parts", 2, x.step(1, 2));
        DUE.is("9: third", 0, x.step(2, 0));
        DUE.is("9: its direction", 5, x.step(2, 1));
        DUE.is("9: its parts", 1, x.step(2, 2));
        DUE.noIndex("9: step 3", () -> x.step(3, 3));
        DUE.noIndex("9: step -1", () -> x.step(-1, 3));
        DUE.noIndex("9: greatest step", () -> x.step(Integer.MAX_VALUE, 0));
        DUE.noIndex("9: least step", () -> x.step(Integer.MIN_VALUE, 0));
        DUE.noArgument("9: what 3", () -> x.step(0, 3));
        DUE.noArgument("9: what -1", () -> x.step(2, -1));
        TogetherOrders y = Things.lockedPair();
        y.run();
        DUE.noState("9: locked", () -> y.step(0, 0));
        DUE.noState("9: locked, first", () -> y.step(-1, 3));
    }

    private static void promise10() {
        TogetherOrders x = Things.lockedPair();
        x.part();
        x.part();
        DUE.noState("10: not run", () -> x.apart(-1));
        x.run();
        DUE.is("10: those that go", 2, x.apart(0));
        DUE.is("10: those that go", 3, x.apart(1));
        DUE.is("10: behind the last", NONE, x.apart(2));
        DUE.is("10: far behind", NONE, x.apart(Integer.MAX_VALUE));
        DUE.noIndex("10: -1", () -> x.apart(-1));
        TogetherOrders z = Things.parts(3);
        // Part 0 lies in the cup 1 under part 2, so that it waits for one of them.
        Things.block(z, 0, Things.at(0, 0, 0), Things.at(1, 1, 1));
        Things.shell(z, 1, 1, false);
        Things.block(z, 2, Things.at(0, 0, 1), Things.at(1, 1, 1));
        z.run();
        DUE.is("10: the second goes first", 1, z.apart(0));
        DUE.is("10: then the least", 0, z.apart(1));
        DUE.is("10: then the last", 2, z.apart(2));
    }

    private static void promise11() {
        TogetherOrders x = Things.parts(4);
        Things.shell(x, 3, 3, true);
        Things.block(x, 1, Things.at(1, 1, 1), Things.at(1, 1, 1));
        DUE.noState("11: not run", () -> x.locked(-1));
        x.run();
        DUE.is("11: first", 1, x.locked(0));
        DUE.is("11: second", 3, x.locked(1));
        DUE.is("11: behind", NONE, x.locked(2));
        DUE.is("11: far behind", NONE, x.locked(Integer.MAX_VALUE));
        DUE.noIndex("11: -1", () -> x.locked(-1));
        x.group(1, 2);
        x.run();
        DUE.is("11: parts, not items", 1, x.locked(0));
        DUE.is("11: parts, not items", 2, x.locked(1));
        DUE.is("11: parts, not items", 3, x.locked(2));
        DUE.is("11: behind", NONE, x.locked(3));
        x.group(0, 1);
        x.group(0, 3);
        x.run();
        DUE.is("11: none", NONE, x.locked(0));
    }

    private static void promise12() {
        TogetherOrders x = Things.cup();
        DUE.noState("12: not run", () -> x.stage(-1));
        x.run();
        DUE.is("12: first", 0, x.stage(0));
        DUE.is("12: second", 2, x.stage(1));
        DUE.is("12: behind", NONE, x.stage(2));
        DUE.is("12: far behind", NONE, x.stage(Integer.MAX_VALUE));
        DUE.noIndex("12: -1", () -> x.stage(-1));
        TogetherOrders y = Things.lockedPair();
        y.run();
        DUE.noState("12: locked", () -> y.stage(0));
        DUE.noState("12: locked, first", () -> y.stage(-1));
        TogetherOrders z = Things.parts(4);
        // Taken off: 0 along x, 1 against x (2 is before it), 2 along x, 3 along x.
        z.box(1, 0, 0, 0, 1, 1);
        z.box(2, 2, 0, 0, 1, 1);
        z.run();
        DUE.is("12: way of 1", 1, z.step(2, 1));
        DUE.is("12: 3 and 2", 0, z.stage(0));
        DUE.is("12: 1", 2, z.stage(1));
        DUE.is("12: 0", 3, z.stage(2));
        DUE.is("12: behind", NONE, z.stage(3));
    }

    private static void promise13() {
        TogetherOrders x = Things.cup();
        DUE.noState("13: not run", x::turnings);
        x.run();
        // Lid, thing and cup one behind the other along z.
        DUE.is("13: none needed", 0, x.turnings());
        DUE.is("13: again", 0, x.turnings());
        TogetherOrders y = Things.lockedPair();
        y.run();
        DUE.is("13: locked", NONE, y.turnings());
        y.part();
        y.run();
        DUE.is("13: locked with one that goes", NONE, y.turnings());
        y.group(0, 1);
        y.run();
        DUE.is("13: none needed", 0, y.turnings());
    }

    private static void promise13NeedsDirections() {
        TogetherOrders x = Things.parts(3);
        // A rail that is open along x only with a slide in it; a plug along y shuts it on both ends.
        Things.block(x, 0, Things.at(0, -1, -1), Things.at(9, 1, 3));
        Things.block(x, 0, Things.at(0, 1, -1), Things.at(9, 1, 3));
        Things.block(x, 0, Things.at(0, -1, -1), Things.at(9, 3, 1));
        Things.block(x, 0, Things.at(0, -1, 1), Things.at(9, 3, 1));
        Things.block(x, 1, Things.at(3, 0, 0), Things.at(2, 1, 1));
        Things.block(x, 2, Things.at(-1, 0, 0), Things.at(1, 1, 1));
        Things.block(x, 2, Things.at(9, 0, 0), Things.at(1, 1, 1));
        Things.block(x, 2, Things.at(-1, 2, 0), Things.at(11, 1, 1));
        Things.block(x, 2, Things.at(-1, 0, 0), Things.at(1, 3, 1));
        Things.block(x, 2, Things.at(9, 0, 0), Things.at(1, 3, 1));
        DUE.is("13: rail runs", 3, x.run());
        DUE.is("13: one turning", 1, x.turnings());
        DUE.is("13: the slide waits for the plug", 1, x.out(1));
        DUE.is("13: the plug needs none", 0, x.out(2));
        x.slant(0, 1, 0);
        x.run();
        DUE.is("13: a like slant spares none", 1, x.turnings());
        TogetherOrders y = Things.parts(2);
        y.box(0, 0, 0, 0, 1, 1);
        y.slant(0, 0, 1);
        y.run();
        DUE.is("13: directions of least turnings", 0, y.turnings());
    }

    private static void promise14() {
        TogetherOrders x = Things.parts(1);
        DUE.noState("14: not run", () -> x.two(3));
        x.run();
        DUE.is("14: free at once", 1, x.two(0));
        DUE.is("14: free at once", 1, x.two(2));
        DUE.noArgument("14: 3", () -> x.two(3));
        DUE.noArgument("14: -1", () -> x.two(-1));
        TogetherOrders y = Things.lockedPair();
        y.run();
        DUE.is("14: closed for good", 0, y.two(0));
        DUE.is("14: closed for good", 0, y.two(1));
        DUE.is("14: closed for good", 0, y.two(2));
        y.part();
        y.run();
        DUE.is("14: another one is free", 1, y.two(0));
        y.group(2, 0);
        y.run();
        DUE.is("14: but not if it is of the shell", 0, y.two(2));
    }

    private static void promise14TwoMoves() {
        long[][] places = {{2, 2, 0, 1}, {1, 2, 0, 2}, {2, 1, 1, 2}, {1, 1, 2, 3}, {0, 2, 0, 3}, {0, 1, 1, 0}};
        for (long[] p : places) {
            TogetherOrders x = Things.holed(p[0], p[1], p[2]);
            x.run();
            String name = "14: thing at " + p[0] + " " + p[1] + " " + p[2];
            DUE.is(name + " two(2)", p[3], x.two(2));
            DUE.is(name + " two(1)", p[3] <= 2 ? p[3] : 0, x.two(1));
            DUE.is(name + " two(0)", p[3] <= 1 ? p[3] : 0, x.two(0));
            DUE.is(name + " two(2) again", p[3], x.two(2));
        }
        TogetherOrders z = Things.holed(1, 2, 1);
        z.part();
        Things.block(z, 2, Things.at(2, 2, 1), Things.at(1, 1, 1));
        z.run();
        DUE.is("14: another one is free", 1, z.two(0));
        z.group(0, 2);
        z.run();
        DUE.is("14: it stands in the way", 0, z.two(1));
        DUE.is("14: over it leads another way", 3, z.two(2));
    }

    private static void promise14Slant() {
        TogetherOrders x = Things.wideHoled();
        x.run();
        DUE.is("14: too far without a slant", 0, x.two(2));
        x.slant(1, 0, 1);
        x.run();
        DUE.is("14: the slant hits beside the hole", 0, x.two(0));
        DUE.is("14: the slant is free behind one move", 2, x.two(1));
        DUE.is("14: the slant is free behind one move", 2, x.two(2));
    }

    private static void promise14Overlaps() {
        TogetherOrders x = Things.parts(2);
        x.box(0, 0, 0, 0, 3, 3);
        x.box(1, 2, 1, 0, 3, 3);
        x.run();
        DUE.is("14: what overlaps by 1 is free behind a move", 0, x.two(0));
        DUE.is("14: what overlaps by 1 is free behind a move", 2, x.two(1));
        TogetherOrders y = Things.parts(2);
        Things.block(y, 0, Things.at(0, 0, 0), Things.at(4, 4, 4));
        Things.block(y, 1, Things.at(2, 2, 2), Things.at(4, 4, 4));
        y.run();
        DUE.is("14: no move leaves it without overlap", 0, y.two(2));
        TogetherOrders z = Things.parts(3);
        z.box(0, 0, 0, 0, 3, 3);
        z.box(0, 1, 1, 0, 1, 1);
        z.box(1, 0, 0, 1, 3, 3);
        z.box(2, 0, 0, 0, 3, 3);
        z.group(1, 2);
        z.run();
        // The item of 1 and 2 is two high and lies upon part 0; part 0 or it goes down or up by 1 or 2.
        DUE.is("14: one move", 2, z.two(2));
    }

    private static void promise15() {
        TogetherOrders x = Things.parts(5);
        DUE.noState("15: not run", () -> x.hands(0, -1));
        x.run();
        int[] two = {2, 2, 1, 0, 0};
        int[] three = {3, 2, 0, 0, 0};
        for (int k = 0; k < 5; k++) {
            DUE.is("15: one hand", 1, x.hands(1, k));
            DUE.is("15: two hands", two[k], x.hands(2, k));
            DUE.is("15: three hands", three[k], x.hands(3, k));
            DUE.is("15: twelve hands", k == 0 ? 5 : 0, x.hands(12, k));
        }
        DUE.is("15: behind the last", 0, x.hands(1, 5));
        DUE.is("15: far behind the last", 0, x.hands(1, 12));
        DUE.is("15: farthest", 0, x.hands(1, Integer.MAX_VALUE));
        DUE.noIndex("15: k below 0", () -> x.hands(0, -1));
        DUE.noArgument("15: 0", () -> x.hands(0, 0));
        DUE.noArgument("15: 13", () -> x.hands(13, 0));
        TogetherOrders y = Things.cup();
        y.run();
        // The cup and the lid are free when it begins; the thing only when the round is over.
        DUE.is("15: cup and lid", 2, y.hands(3, 0));
        DUE.is("15: then the thing", 1, y.hands(3, 1));
        DUE.is("15: nothing", 0, y.hands(3, 2));
        TogetherOrders z = Things.lockedPair();
        z.part();
        z.run();
        DUE.is("15: the one that goes", 1, z.hands(12, 0));
        DUE.is("15: the locked stay", 0, z.hands(12, 1));
    }

    private static void promise16() {
        TogetherOrders x = Things.cup();
        DUE.noState("16: not run", () -> x.out(-1));
        x.run();
        DUE.is("16: cup", 0, x.out(0));
        DUE.is("16: thing", 1, x.out(1));
        DUE.is("16: lid", 0, x.out(2));
        DUE.noIndex("16: -1", () -> x.out(-1));
        DUE.noIndex("16: 3", () -> x.out(3));
        TogetherOrders y = Things.lockedPair();
        y.part();
        y.run();
        DUE.is("16: locked", NONE, y.out(0));
        DUE.is("16: locked", NONE, y.out(1));
        DUE.is("16: goes at once", 0, y.out(2));
        // Boxes in boxes: each shell has its own lid, the thing is in the innermost.
        TogetherOrders z = Things.parts(5);
        Things.block(z, 0, Things.at(0, 0, 0), Things.at(1, 1, 1));
        nested(z, 1, 2, 0);
        nested(z, 3, 4, 2);
        z.run();
        DUE.is("16: runs", 5, z.run());
        DUE.is("16: thing behind two lids or two cups", 2, z.out(0));
        DUE.is("16: inner cup behind the outer one", 1, z.out(1));
        DUE.is("16: inner lid behind the outer one", 1, z.out(2));
        DUE.is("16: outer lid", 0, z.out(4));
        z.group(0, 1);
        z.run();
        DUE.is("16: a part's item", 1, z.out(0));
        z.group(3, 4);
        z.run();
        DUE.is("16: closed", NONE, z.out(0));
    }

    /** A cup round -by .. 1 + by with a lid. */
    private static void nested(TogetherOrders x, int cup, int lid, long by) {
        long edge = 3 + 2 * by;
        long from = -1 - by;
        Things.block(x, cup, Things.at(from, from, from), Things.at(1, edge, edge));
        Things.block(x, cup, Things.at(-from, from, from), Things.at(1, edge, edge));
        Things.block(x, cup, Things.at(from, from, from), Things.at(edge, 1, edge));
        Things.block(x, cup, Things.at(from, -from, from), Things.at(edge, 1, edge));
        Things.block(x, cup, Things.at(from, from, from), Things.at(edge, edge, 1));
        Things.block(x, lid, Things.at(from + 1, from + 1, -from), Things.at(edge - 2, edge - 2, 1));
    }

    private static void promise17() {
        TogetherOrders x = Things.parts(2);
        DUE.noArgument("17: same", () -> x.glue(1, 1, 0));
        DUE.noArgument("17: -1 minutes", () -> x.glue(0, 1, -1));
        DUE.noArgument("17: 1001 minutes", () -> x.glue(0, 1, 1001));
        DUE.noIndex("17: part 2", () -> x.glue(2, 2, -1));
        DUE.noIndex("17: part 2", () -> x.glue(0, 2, 0));
        DUE.noIndex("17: part -1", () -> x.glue(-1, 0, 0));
        DUE.noIndex("17: part -1", () -> x.glue(0, -1, 0));
        for (int i = 0; i < 16; i++) {
            DUE.is("17: room", true, x.glue(i % 2, 1 - i % 2, i == 0 ? 1000 : 1));
        }
        DUE.is("17: no room", false, x.glue(0, 1, 0));
        DUE.noArgument("17: no room, same", () -> x.glue(0, 0, 0));
        x.run();
        DUE.is("17: what had no room is not glued", true, x.keeps());
    }

    private static void promise18() {
        TogetherOrders x = Things.parts(4);
        DUE.noState("18: not run", () -> x.keeps());
        x.run();
        DUE.is("18: no glue", true, x.keeps());
        x.glue(0, 2, 2);
        DUE.is("18: glue does not undo the run; just so far apart", true, x.keeps());
        x.glue(3, 2, 1);
        DUE.is("18: the other way round", true, x.keeps());
        x.glue(3, 1, 1);
        DUE.is("18: one step too far", false, x.keeps());
        x.group(1, 2);
        DUE.noState("18: not run since", () -> x.keeps());
        x.run();
        DUE.is("18: items are nearer", true, x.keeps());
        x.glue(1, 2, 0);
        DUE.is("18: one step", true, x.keeps());
        x.glue(0, 1, 0);
        DUE.is("18: 0 steps", false, x.keeps());
        TogetherOrders y = Things.lockedPair();
        y.run();
        DUE.noState("18: locked", () -> y.keeps());
    }

    private static void promise19() {
        TogetherOrders x = Things.parts(4);
        x.box(0, 0, 0, 0, 5, 2);
        x.box(0, -3, 0, 0, 1, 2);
        x.box(1, 4, 3, 0, 1, 1);
        x.deep(2, 9);
        x.box(3, -M, 0, 0, 1, 1);
        // Together -3 .. 5, 0 .. 4, 0 .. 9.
        DUE.is("19: x", 0, x.clamp(0, 1, 8));
        DUE.is("19: y", 1, x.clamp(0, 1, 7));
        DUE.is("19: y", 1, x.clamp(1, 0, 4));
        DUE.is("19: none", NONE, x.clamp(0, 1, 3));
        DUE.is("19: all", 0, x.clamp(0, 1, Long.MAX_VALUE));
        DUE.is("19: reach 0", NONE, x.clamp(0, 1, 0));
        DUE.is("19: the same part", 0, x.clamp(1, 1, 1));
        DUE.is("19: z", 2, x.clamp(0, 0, 1));
        DUE.is("19: far", 0, x.clamp(3, 0, M + 5));
        DUE.is("19: far, y", 1, x.clamp(3, 0, M + 4));
        DUE.is("19: no boxes", NONE, x.clamp(0, 2, 100));
        DUE.is("19: no boxes", NONE, x.clamp(2, 0, 100));
        DUE.is("19: no boxes", NONE, x.clamp(2, 2, 100));
        DUE.noIndex("19: part 4", () -> x.clamp(4, 0, -1));
        DUE.noIndex("19: part 4", () -> x.clamp(0, 4, -1));
        DUE.noIndex("19: part -1", () -> x.clamp(-1, 0, 1));
        DUE.noArgument("19: -1", () -> x.clamp(0, 1, -1));
        DUE.noArgument("19: -1, no boxes", () -> x.clamp(0, 2, Long.MIN_VALUE));
    }
}
