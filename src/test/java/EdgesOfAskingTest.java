/** The boundary cases of promises 8 to 16 and 18 (run, and what needs it), one case a method. */
public final class EdgesOfAskingTest {
    private static final Due DUE = new Due("EdgesOfAskingTest");
    private static final int NONE = TogetherOrders.NONE;
    private static final int LEAST = Integer.MIN_VALUE;
    private static final int GREATEST = Integer.MAX_VALUE;

    public static void main(String[] args) throws IllegalAccessException {
        DUE.runCases(EdgesOfAskingTest.class);
        DUE.end();
    }

    private EdgesOfAskingTest() {
    }

    private static TogetherOrders ran(TogetherOrders x) {
        x.run();
        return x;
    }

    /** Parts 0 and 1 are locked, 2 and 3 go. */
    private static TogetherOrders halfLocked() {
        TogetherOrders x = Things.lockedPair();
        x.part();
        x.part();
        return x;
    }

    // Promise 8: run. 0 if some are LOCKED, or there is no part.

    static void promise08_noPart() {
        TogetherOrders x = new TogetherOrders();
        DUE.is("run", 0, x.run());
        DUE.is("run again", 0, x.run());
        DUE.is("locked", NONE, x.locked(0));
    }

    static void promise08_onePart() {
        DUE.is("without boxes", 1, Things.parts(1).run());
        TogetherOrders x = Things.parts(1);
        Things.shell(x, 0, 3, true);
        DUE.is("with boxes", 1, x.run());
    }

    static void promise08_twelveParts() {
        DUE.is("without boxes", 12, Things.parts(12).run());
        DUE.is("chain", 12, Things.chain().run());
        DUE.is("zigzag", 12, Things.zigzag().run());
    }

    static void promise08_allLocked() {
        DUE.is("pair", 0, Things.lockedPair().run());
        DUE.is("heap", 0, Things.heap().run());
    }

    static void promise08_someLocked() {
        TogetherOrders x = halfLocked();
        DUE.is("run", 0, x.run());
        DUE.is("run again", 0, x.run());
    }

    static void promise08_lockedAndFreedAgain() {
        TogetherOrders x = Things.lockedPair();
        DUE.is("locked", 0, x.run());
        x.group(0, 1);
        DUE.is("one item", 1, x.run());
        x.part();
        DUE.is("two items", 2, x.run());
    }

    static void promise08_freedByASlant() {
        TogetherOrders x = Things.slit();
        DUE.is("run", 0, x.run());
        x.slant(1, 0, 1);
        DUE.is("run with a slant", 2, x.run());
    }

    static void promise08_lockedByAnotherSize() {
        TogetherOrders x = Things.parts(2);
        int box = Things.block(x, 0, Things.at(0, 0, 0), Things.at(9, 9, 1));
        Things.block(x, 1, Things.at(0, 0, 1), Things.at(9, 9, 9));
        DUE.is("touching", 2, x.run());
        x.deep(box, 2);
        DUE.is("overlapping", 0, x.run());
    }

    static void promise08_freedByAnotherSize() {
        TogetherOrders x = Things.parts(2);
        int box = Things.block(x, 0, Things.at(0, 0, 0), Things.at(9, 9, 2));
        Things.block(x, 1, Things.at(0, 0, 1), Things.at(9, 9, 9));
        DUE.is("overlapping", 0, x.run());
        x.deep(box, 1);
        DUE.is("touching", 2, x.run());
        DUE.is("two", 1, x.two(0));
    }

    // Promise 9: step.

    static void promise09_notRun() {
        TogetherOrders x = Things.parts(1);
        DUE.noState("step(0, 0)", () -> x.step(0, 0));
    }

    static void promise09_locked() {
        TogetherOrders x = ran(halfLocked());
        for (int what = 0; what < 3; what++) {
            int w = what;
            DUE.noState("step(0, " + w + ")", () -> x.step(0, w));
        }
    }

    static void promise09_noPart() {
        TogetherOrders x = ran(new TogetherOrders());
        DUE.noIndex("step(0, 0)", () -> x.step(0, 0));
        DUE.noIndex("step(-1, 0)", () -> x.step(-1, 0));
    }

    static void promise09_firstAndLastStep() {
        TogetherOrders x = ran(Things.chain());
        DUE.is("item of step 0", 11, x.step(0, 0));
        DUE.is("direction of step 0", 0, x.step(0, 1));
        DUE.is("bits of step 0", 2048, x.step(0, 2));
        DUE.is("item of step 11", 0, x.step(11, 0));
        DUE.is("direction of step 11", 0, x.step(11, 1));
        DUE.is("bits of step 11", 1, x.step(11, 2));
        DUE.is("direction of step 10", 2, x.step(10, 1));
    }

    static void promise09_noSuchStep() {
        for (int n = 1; n <= 12; n++) {
            TogetherOrders x = ran(Things.parts(n));
            int[] none = {-1, n, 12, LEAST, GREATEST};
            for (int k : none) {
                DUE.noIndex("step(" + k + ", 0) of " + n, () -> x.step(k, 0));
                DUE.noIndex("step(" + k + ", 1) of " + n, () -> x.step(k, 1));
                DUE.noIndex("step(" + k + ", 2) of " + n, () -> x.step(k, 2));
            }
            DUE.is("last of " + n, 0, x.step(n - 1, 0));
        }
    }

    static void promise09_stepsAreItemsNotParts() {
        TogetherOrders x = Things.parts(3);
        x.group(0, 2);
        x.run();
        DUE.is("last", 5, x.step(1, 2));
        DUE.noIndex("step(2, 0)", () -> x.step(2, 0));
    }

    static void promise09_anotherWhat() {
        TogetherOrders x = ran(Things.parts(1));
        int[] others = {-1, 3, LEAST, GREATEST};
        for (int what : others) {
            DUE.noArgument("step(0, " + what + ")", () -> x.step(0, what));
        }
    }

    static void promise09_stateBeforeIndexBeforeArgument() {
        TogetherOrders x = Things.parts(1);
        DUE.noState("not run, no step", () -> x.step(-1, 0));
        DUE.noState("not run, another what", () -> x.step(0, 3));
        DUE.noState("not run, both", () -> x.step(1, -1));
        x.run();
        DUE.noIndex("no step, another what", () -> x.step(1, 3));
        DUE.noIndex("no step, another what", () -> x.step(-1, -1));
        TogetherOrders y = ran(halfLocked());
        DUE.noState("locked, no step", () -> y.step(-1, 0));
        DUE.noState("locked, no step", () -> y.step(4, 0));
        DUE.noState("locked, another what", () -> y.step(0, 3));
    }

    // Promise 10: apart. NONE behind the last.

    static void promise10_notRun() {
        TogetherOrders x = Things.parts(1);
        DUE.noState("apart(0)", () -> x.apart(0));
        DUE.noState("apart(1)", () -> x.apart(1));
    }

    static void promise10_noPart() {
        TogetherOrders x = ran(new TogetherOrders());
        DUE.is("apart(0)", NONE, x.apart(0));
        DUE.is("apart(greatest)", NONE, x.apart(GREATEST));
    }

    static void promise10_lastAndBehind() {
        for (int n = 1; n <= 12; n++) {
            TogetherOrders x = ran(Things.parts(n));
            DUE.is("last of " + n, n - 1, x.apart(n - 1));
            DUE.is("behind the last of " + n, NONE, x.apart(n));
            DUE.is("far behind the last of " + n, NONE, x.apart(12));
            DUE.is("farthest", NONE, x.apart(GREATEST));
        }
    }

    static void promise10_someLocked() {
        TogetherOrders x = ran(halfLocked());
        DUE.is("first", 2, x.apart(0));
        DUE.is("last", 3, x.apart(1));
        DUE.is("behind the last", NONE, x.apart(2));
        DUE.is("behind the last", NONE, x.apart(3));
    }

    static void promise10_allLocked() {
        TogetherOrders x = ran(Things.heap());
        DUE.is("apart(0)", NONE, x.apart(0));
    }

    /** Fewer steps than in the run before: nothing of that one is left. */
    static void promise10_behindTheLastAfterAnotherRun() {
        TogetherOrders x = ran(Things.parts(3));
        DUE.is("last", 2, x.apart(2));
        x.group(0, 2);
        x.run();
        DUE.is("last", 1, x.apart(1));
        DUE.is("behind the last", NONE, x.apart(2));
    }

    static void promise10_allLockedAfterAnotherRun() {
        TogetherOrders x = ran(Things.parts(2));
        Things.dot(x, 0, Things.at(0, 0, 0));
        Things.dot(x, 1, Things.at(0, 0, 0));
        x.run();
        DUE.is("apart(0)", NONE, x.apart(0));
        DUE.is("locked(1)", 1, x.locked(1));
    }

    static void promise10_below0() {
        TogetherOrders x = ran(Things.parts(1));
        DUE.noIndex("apart(-1)", () -> x.apart(-1));
        DUE.noIndex("apart(least)", () -> x.apart(LEAST));
        TogetherOrders y = ran(new TogetherOrders());
        DUE.noIndex("no part: apart(-1)", () -> y.apart(-1));
        TogetherOrders z = ran(Things.heap());
        DUE.noIndex("locked: apart(-1)", () -> z.apart(-1));
    }

    static void promise10_stateBeforeIndex() {
        TogetherOrders x = Things.parts(1);
        DUE.noState("apart(-1)", () -> x.apart(-1));
    }

    // Promise 11: locked. NONE behind the last.

    static void promise11_notRun() {
        TogetherOrders x = Things.lockedPair();
        DUE.noState("locked(0)", () -> x.locked(0));
        DUE.noState("locked(2)", () -> x.locked(2));
    }

    static void promise11_noPart() {
        TogetherOrders x = ran(new TogetherOrders());
        DUE.is("locked(0)", NONE, x.locked(0));
        DUE.is("locked(greatest)", NONE, x.locked(GREATEST));
    }

    static void promise11_noneLocked() {
        TogetherOrders x = ran(Things.parts(12));
        DUE.is("locked(0)", NONE, x.locked(0));
        DUE.is("locked(11)", NONE, x.locked(11));
    }

    static void promise11_lastAndBehind() {
        TogetherOrders x = ran(halfLocked());
        DUE.is("first", 0, x.locked(0));
        DUE.is("last", 1, x.locked(1));
        DUE.is("behind the last", NONE, x.locked(2));
        DUE.is("farthest", NONE, x.locked(GREATEST));
    }

    static void promise11_twelveLocked() {
        TogetherOrders x = ran(Things.heap());
        for (int k = 0; k < 12; k++) {
            DUE.is("locked(" + k + ")", k, x.locked(k));
        }
        DUE.is("behind the last", NONE, x.locked(12));
    }

    static void promise11_partsOfGroups() {
        TogetherOrders x = halfLocked();
        x.group(1, 3);
        x.run();
        DUE.is("locked(0)", 0, x.locked(0));
        DUE.is("locked(1)", 1, x.locked(1));
        DUE.is("locked(2)", 3, x.locked(2));
        DUE.is("behind the last", NONE, x.locked(3));
        DUE.is("goes", 2, x.apart(0));
    }

    static void promise11_below0() {
        TogetherOrders x = ran(Things.lockedPair());
        DUE.noIndex("locked(-1)", () -> x.locked(-1));
        DUE.noIndex("locked(least)", () -> x.locked(LEAST));
        TogetherOrders y = ran(new TogetherOrders());
        DUE.noIndex("no part: locked(-1)", () -> y.locked(-1));
    }

    static void promise11_stateBeforeIndex() {
        TogetherOrders x = Things.lockedPair();
        DUE.noState("locked(-1)", () -> x.locked(-1));
    }

    // Promise 12: stage. NONE behind the last.

    static void promise12_notRun() {
        TogetherOrders x = Things.parts(1);
        DUE.noState("stage(0)", () -> x.stage(0));
        DUE.noState("stage(1)", () -> x.stage(1));
    }

    static void promise12_locked() {
        TogetherOrders x = ran(halfLocked());
        DUE.noState("stage(0)", () -> x.stage(0));
        DUE.noState("stage(9)", () -> x.stage(9));
    }

    static void promise12_noPart() {
        TogetherOrders x = ran(new TogetherOrders());
        DUE.is("stage(0)", NONE, x.stage(0));
        DUE.is("stage(greatest)", NONE, x.stage(GREATEST));
    }

    static void promise12_onlyOne() {
        for (int n = 1; n <= 12; n += 11) {
            TogetherOrders x = ran(Things.parts(n));
            DUE.is("first of " + n, 0, x.stage(0));
            DUE.is("behind the last of " + n, NONE, x.stage(1));
            DUE.is("farthest", NONE, x.stage(GREATEST));
        }
    }

    static void promise12_asManyAsSteps() {
        TogetherOrders x = ran(Things.zigzag());
        for (int k = 0; k < 12; k++) {
            DUE.is("stage(" + k + ")", k, x.stage(k));
        }
        DUE.is("behind the last", NONE, x.stage(12));
    }

    static void promise12_asLongAsCanBe() {
        TogetherOrders x = ran(Things.chain());
        DUE.is("stage(0)", 0, x.stage(0));
        for (int k = 1; k < 11; k++) {
            DUE.is("stage(" + k + ")", k + 1, x.stage(k));
        }
        DUE.is("behind the last", NONE, x.stage(11));
    }

    static void promise12_below0() {
        TogetherOrders x = ran(Things.parts(1));
        DUE.noIndex("stage(-1)", () -> x.stage(-1));
        DUE.noIndex("stage(least)", () -> x.stage(LEAST));
        TogetherOrders y = ran(new TogetherOrders());
        DUE.noIndex("no part: stage(-1)", () -> y.stage(-1));
    }

    static void promise12_stateBeforeIndex() {
        TogetherOrders x = Things.parts(1);
        DUE.noState("not run", () -> x.stage(-1));
        TogetherOrders y = ran(Things.lockedPair());
        DUE.noState("locked", () -> y.stage(-1));
    }

    // Promise 13: turnings. NONE if some are LOCKED (0 without parts).

    static void promise13_notRun() {
        TogetherOrders x = Things.parts(1);
        DUE.noState("turnings", x::turnings);
        TogetherOrders y = new TogetherOrders();
        DUE.noState("no part", y::turnings);
        TogetherOrders z = Things.lockedPair();
        DUE.noState("locked", z::turnings);
    }

    static void promise13_noPart() {
        DUE.is("turnings", 0, ran(new TogetherOrders()).turnings());
    }

    static void promise13_onePartAndTwelve() {
        DUE.is("one", 0, ran(Things.parts(1)).turnings());
        DUE.is("twelve", 0, ran(Things.parts(12)).turnings());
        DUE.is("twelve in rows", 0, ran(Things.zigzag()).turnings());
    }

    static void promise13_allLocked() {
        DUE.is("pair", NONE, ran(Things.lockedPair()).turnings());
        DUE.is("heap", NONE, ran(Things.heap()).turnings());
    }

    static void promise13_someLocked() {
        DUE.is("turnings", NONE, ran(halfLocked()).turnings());
    }

    /** Of twelve items the last two can go the same way, so that there are at most 10. */
    static void promise13_greatestNumber() {
        DUE.is("chain", 10, ran(Things.chain()).turnings());
    }

    /** Along x all would go last to first, but the least number goes first, against x. */
    static void promise13_fewerThanInTheRun() {
        TogetherOrders x = ran(Things.zigzag());
        DUE.is("stages of the run", 11, x.stage(11));
        DUE.is("turnings", 0, x.turnings());
    }

    /**
     * Three lie behind one another in a bore of part 0 that is open along x, one in a bore that is
     * open along y: only the outermost of the three can go first, then those behind it.
     */
    private static TogetherOrders bores() {
        TogetherOrders x = new TogetherOrders();
        tellBores(x);
        return x;
    }

    private static void tellBores(TogetherOrders x) {
        int first = x.part();
        long[][] bore = {{-1, 0, 0}, {0, 1, 0}, {0, -1, 0}, {0, 0, 1}, {0, 0, -1}};
        for (long[] wall : bore) {
            x.box(first, wall[0], wall[1], wall[2], wall[0] < 0 ? 1 : 9, 1);
            x.box(first, 40 + wall[1], 40 + wall[0], wall[2], 1, wall[0] < 0 ? 1 : 9);
        }
        for (int i = 1; i <= 3; i++) {
            Things.dot(x, x.part(), Things.at(2 * i, 0, 0));
        }
        Things.dot(x, x.part(), Things.at(40, 40, 0));
    }

    /** The innermost one's arm keeps 4 in its bore, and 4 keeps part 0 from going against x. */
    static void promise13_theLastNumberGoesFirst() {
        TogetherOrders x = bores();
        Things.dot(x, 1, Things.at(40, 60, 0));
        DUE.is("run", 5, x.run());
        DUE.is("first", 3, x.apart(0));
        DUE.is("turnings", 1, x.turnings());
        DUE.is("innermost", 2, x.out(1));
        DUE.is("in the other bore", 3, x.out(4));
    }

    /** Each one waits for the number behind it, down to the least one. */
    static void promise13_twelveAlongOneSlant() {
        TogetherOrders x = Things.slide();
        DUE.is("run", 12, x.run());
        DUE.is("first", 11, x.apart(0));
        DUE.is("its direction", 6, x.step(11, 1));
        DUE.is("turnings", 0, x.turnings());
    }

    static void promise13_outIsAskedBefore() {
        TogetherOrders x = ran(Things.chain());
        DUE.is("out", 9, x.out(9));
        DUE.is("turnings", 10, x.turnings());
        DUE.is("turnings again", 10, x.turnings());
    }

    static void promise13_otherNumberAfterAnotherRun() {
        TogetherOrders x = ran(bores());
        DUE.is("two ways are needed", 1, x.turnings());
        x.group(0, 4);
        x.run();
        DUE.is("one way is needed", 0, x.turnings());
        x.part();
        Things.dot(x, 5, Things.at(2, 0, 0));
        x.run();
        DUE.is("some are locked", NONE, x.turnings());
        x.group(5, 1);
        x.run();
        DUE.is("one way is needed again", 0, x.turnings());
    }

    // Promise 14: two. 0 if there is none, or no part; depth 0 .. 2.

    static void promise14_notRun() {
        TogetherOrders x = Things.parts(1);
        DUE.noState("two(0)", () -> x.two(0));
        DUE.noState("two(2)", () -> x.two(2));
    }

    static void promise14_noPart() {
        TogetherOrders x = ran(new TogetherOrders());
        for (int depth = 0; depth <= 2; depth++) {
            DUE.is("two(" + depth + ")", 0, x.two(depth));
        }
    }

    static void promise14_noMoveIsNeeded() {
        TogetherOrders x = ran(Things.parts(1));
        for (int depth = 0; depth <= 2; depth++) {
            DUE.is("two(" + depth + ")", 1, x.two(depth));
        }
    }

    static void promise14_oneMoveIsNeeded() {
        TogetherOrders x = ran(Things.holed(1, 2, 0));
        DUE.is("two(0)", 0, x.two(0));
        DUE.is("two(1)", 2, x.two(1));
        DUE.is("two(2)", 2, x.two(2));
    }

    static void promise14_twoMovesAreNeeded() {
        TogetherOrders x = ran(Things.holed(1, 1, 0));
        DUE.is("two(0)", 0, x.two(0));
        DUE.is("two(1)", 0, x.two(1));
        DUE.is("two(2)", 3, x.two(2));
    }

    static void promise14_threeMovesAreNeeded() {
        TogetherOrders x = ran(Things.holed(0, 1, 0));
        DUE.is("two(2)", 0, x.two(2));
        DUE.is("two(1)", 0, x.two(1));
        DUE.is("two(0)", 0, x.two(0));
    }

    static void promise14_theDeepestIsAskedFirst() {
        TogetherOrders x = ran(Things.holed(1, 1, 0));
        DUE.is("two(2)", 3, x.two(2));
        DUE.is("two(1)", 0, x.two(1));
        DUE.is("two(0)", 0, x.two(0));
        DUE.is("two(2) again", 3, x.two(2));
    }

    static void promise14_noneHelp() {
        DUE.is("pair", 0, ran(Things.lockedPair()).two(2));
        DUE.is("heap", 0, ran(Things.heap()).two(2));
    }

    static void promise14_depthBeyond() {
        TogetherOrders x = ran(Things.parts(1));
        int[] beyond = {-1, 3, LEAST, GREATEST};
        for (int depth : beyond) {
            DUE.noArgument("two(" + depth + ")", () -> x.two(depth));
        }
        TogetherOrders y = ran(new TogetherOrders());
        DUE.noArgument("no part: two(3)", () -> y.two(3));
    }

    static void promise14_stateBeforeArgument() {
        TogetherOrders x = Things.parts(1);
        DUE.noState("two(-1)", () -> x.two(-1));
        DUE.noState("two(3)", () -> x.two(3));
    }

    /** Only the thing can move, and only along one direction it comes under the hole in the lid. */
    static void promise14_eachDirectionOfAMove() {
        for (int d = 0; d < 6; d++) {
            for (int thing = 0; thing < 3; thing++) {
                TogetherOrders x = ran(pinned(d, thing));
                DUE.is("two(0), direction " + d + " of part " + thing, 0, x.two(0));
                DUE.is("two(1), direction " + d + " of part " + thing, 2, x.two(1));
            }
        }
    }

    private static TogetherOrders pinned(int d, int thing) {
        TogetherOrders x = Things.parts(3);
        int shell = (thing + 1) % 3;
        int pin = (thing + 2) % 3;
        int[] axes = {d / 2, (d / 2 + 1) % 3, (d / 2 + 2) % 3};
        long hole = d % 2 == 0 ? 2 : 0;
        turned(x, shell, axes, new long[][] {{-1, -1, -1}, {1, 5, 5}});
        turned(x, shell, axes, new long[][] {{3, -1, -1}, {1, 5, 5}});
        turned(x, shell, axes, new long[][] {{-1, -1, -1}, {5, 1, 5}});
        turned(x, shell, axes, new long[][] {{-1, -1, -1}, {5, 5, 1}});
        turned(x, shell, axes, new long[][] {{-1, -1, 1}, {5, 5, 1}});
        turned(x, shell, axes, new long[][] {{-1, 3, -1}, {hole + 1, 1, 3}});
        turned(x, shell, axes, new long[][] {{hole + 1, 3, -1}, {3 - hole, 1, 3}});
        turned(x, thing, axes, new long[][] {{1, 0, 0}, {1, 1, 1}});
        // Two that overlap so far off can't move: else the shell could move instead of the thing.
        Things.block(x, shell, Things.at(40, 40, 40), Things.at(9, 9, 9));
        Things.block(x, pin, Things.at(40, 40, 40), Things.at(9, 9, 9));
        return x;
    }

    /** A box told in other axes: its place and size along axes[0], axes[1], axes[2]. */
    private static void turned(TogetherOrders x, int part, int[] axes, long[][] box) {
        long[] from = new long[3];
        long[] size = new long[3];
        for (int i = 0; i < 3; i++) {
            from[axes[i]] = box[0][i];
            size[axes[i]] = box[1][i];
        }
        Things.block(x, part, from, size);
    }

    /** Along a slant the thing would be under the hole at once; but it must go round by axes. */
    static void promise14_noMovesAlongSlants() {
        TogetherOrders x = Things.holed(1, 1, 0);
        x.slant(1, 1, 0);
        x.run();
        DUE.is("two(1)", 0, x.two(1));
        DUE.is("two(2)", 3, x.two(2));
    }

    static void promise14_freeAlongASlantBehindAMove() {
        TogetherOrders x = ran(Things.wideHoled());
        DUE.is("two(2) without a slant", 0, x.two(2));
        x.slant(1, 0, 1);
        x.run();
        DUE.is("two(0) with a slant", 0, x.two(0));
        DUE.is("two(1) with a slant", 2, x.two(1));
    }

    /** A stop as high as the shell lies under the hole, and is too long to leave by it. */
    private static TogetherOrders stopped(boolean room) {
        TogetherOrders x = Things.holed(1, 2, 0);
        x.part();
        Things.block(x, 2, Things.at(2, 1, 0), Things.at(1, 2, 3));
        if (!room) {
            Things.block(x, 0, Things.at(2, 0, 0), Things.at(1, 1, 3));
        }
        return x;
    }

    static void promise14_twoItemsMove() {
        TogetherOrders x = ran(stopped(true));
        DUE.is("two(1)", 0, x.two(1));
        DUE.is("two(2)", 3, x.two(2));
    }

    static void promise14_movesMustNotOverlap() {
        TogetherOrders x = ran(stopped(false));
        DUE.is("two(2)", 0, x.two(2));
    }

    static void promise14_groupsMoveAsOne() {
        TogetherOrders x = stopped(true);
        x.group(1, 2);
        x.run();
        DUE.is("two(2)", 0, x.two(2));
    }

    /** Over the thing under the hole lies a stop, which is too long for the hole but can give way. */
    static void promise14_anotherItemGivesWay() {
        int[][] numbers = {{0, 1, 2}, {1, 0, 2}, {2, 0, 1}, {1, 2, 0}};
        for (int[] n : numbers) {
            TogetherOrders x = Things.parts(3);
            Things.shell(x, n[1], 3, false);
            Things.block(x, n[1], Things.at(-1, -1, 3), Things.at(3, 5, 1));
            Things.block(x, n[1], Things.at(2, -1, 3), Things.at(1, 3, 1));
            Things.dot(x, n[2], Things.at(2, 2, 0));
            Things.block(x, n[0], Things.at(2, 1, 1), Things.at(1, 2, 1));
            x.run();
            DUE.is("two(0), stop is " + n[0], 0, x.two(0));
            DUE.is("two(1), stop is " + n[0], 2, x.two(1));
        }
    }

    static void promise14_otherNumberAfterAnotherRun() {
        TogetherOrders x = ran(Things.holed(1, 2, 0));
        DUE.is("one move", 2, x.two(2));
        x.part();
        x.run();
        DUE.is("part 2 is free", 1, x.two(2));
        x.group(0, 2);
        x.run();
        DUE.is("one move again", 2, x.two(2));
        Things.block(x, 0, Things.at(2, 2, 9), Things.at(1, 1, 1));
        x.run();
        DUE.is("the hole is shut", 0, x.two(2));
    }

    /** The fourth slant is held apart from what overlaps at rest. */
    static void promise14_fourSlants() {
        TogetherOrders x = Things.holed(1, 2, 0);
        x.slant(1, 0, 0);
        x.slant(0, 1, 0);
        x.slant(-1, 0, 0);
        x.slant(1, 0, -1);
        x.run();
        DUE.is("two(0)", 0, x.two(0));
        DUE.is("two(1)", 2, x.two(1));
    }

    /** Both lie in one place: behind one move of either they touch, and touching ones may go. */
    static void promise14_touchingIsNoOverlap() {
        TogetherOrders x = Things.parts(2);
        Things.dot(x, 0, Things.at(0, 0, 0));
        Things.dot(x, 1, Things.at(0, 0, 0));
        x.run();
        DUE.is("two(0)", 0, x.two(0));
        DUE.is("two(1)", 2, x.two(1));
    }

    static void promise14_twelveParts() {
        DUE.is("one can go", 1, ran(Things.chain()).two(2));
        TogetherOrders x = Things.parts(12);
        for (int i = 0; i < 12; i++) {
            Things.dot(x, i, Things.at(0, 0, 0));
        }
        x.run();
        DUE.is("no move", 0, x.two(0));
        DUE.is("one move away from the others", 2, x.two(1));
        TogetherOrders y = Things.parts(12);
        for (int i = 0; i < 12; i++) {
            Things.block(y, i, Things.at(0, 0, 0), Things.at(2, 2, 2));
        }
        y.run();
        DUE.is("one move leaves an overlap", 0, y.two(2));
    }

    // Promise 15: hands. 0 behind the last; n 1 .. 12.

    static void promise15_notRun() {
        TogetherOrders x = Things.parts(1);
        DUE.noState("hands(1, 0)", () -> x.hands(1, 0));
    }

    static void promise15_noPart() {
        TogetherOrders x = ran(new TogetherOrders());
        DUE.is("hands(1, 0)", 0, x.hands(1, 0));
        DUE.is("hands(12, greatest)", 0, x.hands(12, GREATEST));
    }

    static void promise15_leastNumberOfHands() {
        TogetherOrders x = ran(Things.parts(12));
        for (int k = 0; k < 12; k++) {
            DUE.is("round " + k, 1, x.hands(1, k));
        }
        DUE.is("behind the last", 0, x.hands(1, 12));
        DUE.is("farthest", 0, x.hands(1, GREATEST));
    }

    static void promise15_greatestNumberOfHands() {
        TogetherOrders x = ran(Things.parts(12));
        DUE.is("round 0", 12, x.hands(12, 0));
        DUE.is("behind the last", 0, x.hands(12, 1));
        DUE.is("eleven hands", 11, x.hands(11, 0));
        DUE.is("eleven hands, then", 1, x.hands(11, 1));
        DUE.is("eleven hands, behind the last", 0, x.hands(11, 2));
    }

    static void promise15_handsBeyond() {
        TogetherOrders x = ran(Things.parts(1));
        int[] beyond = {0, 13, -1, LEAST, GREATEST};
        for (int n : beyond) {
            DUE.noArgument("hands(" + n + ", 0)", () -> x.hands(n, 0));
            DUE.noArgument("hands(" + n + ", 99)", () -> x.hands(n, 99));
        }
        TogetherOrders y = ran(new TogetherOrders());
        DUE.noArgument("no part: hands(0, 0)", () -> y.hands(0, 0));
    }

    static void promise15_below0() {
        TogetherOrders x = ran(Things.parts(1));
        DUE.noIndex("hands(1, -1)", () -> x.hands(1, -1));
        DUE.noIndex("hands(12, least)", () -> x.hands(12, LEAST));
    }

    static void promise15_stateBeforeIndexBeforeArgument() {
        TogetherOrders x = Things.parts(1);
        DUE.noState("not run, k", () -> x.hands(1, -1));
        DUE.noState("not run, n", () -> x.hands(0, 0));
        DUE.noState("not run, both", () -> x.hands(13, -1));
        x.run();
        DUE.noIndex("k and n", () -> x.hands(0, -1));
        DUE.noIndex("k and n", () -> x.hands(13, LEAST));
    }

    static void promise15_oneARoundThenTwo() {
        TogetherOrders x = ran(Things.chain());
        for (int k = 0; k < 10; k++) {
            DUE.is("round " + k, 1, x.hands(12, k));
        }
        DUE.is("round 10", 2, x.hands(12, 10));
        DUE.is("behind the last", 0, x.hands(12, 11));
        DUE.is("one hand, round 11", 1, x.hands(1, 11));
        DUE.is("one hand, behind the last", 0, x.hands(1, 12));
    }

    static void promise15_asManyRoundsAsCanBe() {
        TogetherOrders x = ran(Things.slide());
        for (int k = 0; k < 12; k++) {
            DUE.is("round " + k, 1, x.hands(12, k));
        }
        DUE.is("behind the last", 0, x.hands(12, 12));
    }

    static void promise15_lockedOnesNeverGo() {
        TogetherOrders x = ran(halfLocked());
        DUE.is("round 0", 2, x.hands(12, 0));
        DUE.is("behind the last", 0, x.hands(12, 1));
        DUE.is("one hand, round 1", 1, x.hands(1, 1));
        DUE.is("one hand, behind the last", 0, x.hands(1, 2));
        DUE.is("all locked", 0, ran(Things.heap()).hands(12, 0));
    }

    /** Free when the round begins, not when others of the round have gone: the thing waits. */
    static void promise15_freeWhenTheRoundBegins() {
        TogetherOrders x = ran(Things.cup());
        DUE.is("round 0", 2, x.hands(3, 0));
        DUE.is("round 1", 1, x.hands(3, 1));
        DUE.is("behind the last", 0, x.hands(3, 2));
    }

    /** As the bores with 0 and 1 before them: those go in the first round though others could. */
    static void promise15_leastNumbersGo() {
        TogetherOrders x = Things.parts(2);
        tellBores(x);
        x.run();
        // 0, 1, 5 go, then 4, 6, then 2, 3; had 6 gone at first, 2 could have gone with 4.
        DUE.is("round 0", 3, x.hands(3, 0));
        DUE.is("round 1", 2, x.hands(3, 1));
        DUE.is("round 2", 2, x.hands(3, 2));
        DUE.is("behind the last", 0, x.hands(3, 3));
    }

    static void promise15_itemsGoNotParts() {
        TogetherOrders x = Things.parts(12);
        for (int i = 1; i < 11; i++) {
            x.group(0, i);
        }
        x.run();
        DUE.is("round 0", 2, x.hands(12, 0));
        DUE.is("one hand, round 1", 1, x.hands(1, 1));
        DUE.is("one hand, behind the last", 0, x.hands(1, 2));
    }

    // Promise 16: out. NONE if it can't.

    static void promise16_notRun() {
        TogetherOrders x = Things.parts(1);
        DUE.noState("out(0)", () -> x.out(0));
    }

    static void promise16_noPart() {
        TogetherOrders x = ran(new TogetherOrders());
        DUE.noIndex("out(0)", () -> x.out(0));
        DUE.noIndex("out(-1)", () -> x.out(-1));
    }

    static void promise16_noSuchPart() {
        for (int n = 1; n <= 12; n++) {
            TogetherOrders x = ran(Things.parts(n));
            int[] none = {-1, n, 12, LEAST, GREATEST};
            for (int part : none) {
                DUE.noIndex("out(" + part + ") of " + n, () -> x.out(part));
            }
            DUE.is("last of " + n, 0, x.out(n - 1));
        }
    }

    static void promise16_stateBeforeIndex() {
        TogetherOrders x = Things.parts(1);
        DUE.noState("out(-1)", () -> x.out(-1));
        DUE.noState("out(1)", () -> x.out(1));
    }

    static void promise16_leastAndGreatestNumber() {
        TogetherOrders x = ran(Things.slide());
        for (int part = 0; part < 12; part++) {
            DUE.is("out(" + part + ")", 11 - part, x.out(part));
        }
    }

    static void promise16_oneBehindTheOther() {
        TogetherOrders x = ran(Things.chain());
        for (int part = 0; part < 11; part++) {
            DUE.is("out(" + part + ")", part, x.out(part));
        }
        DUE.is("out(11)", 10, x.out(11));
    }

    static void promise16_canNot() {
        TogetherOrders x = ran(halfLocked());
        DUE.is("locked", NONE, x.out(0));
        DUE.is("locked", NONE, x.out(1));
        DUE.is("goes", 0, x.out(2));
        DUE.is("goes", 0, x.out(3));
        DUE.is("heap", NONE, ran(Things.heap()).out(11));
    }

    static void promise16_partsOfItsItem() {
        TogetherOrders x = Things.chain();
        x.group(3, 4);
        x.run();
        DUE.is("odd and even ones have no way in common", NONE, x.out(4));
        DUE.is("their item", NONE, x.out(3));
        DUE.is("before them", 2, x.out(2));
        DUE.is("behind them", NONE, x.out(5));
        TogetherOrders y = Things.cup();
        y.group(1, 2);
        y.run();
        DUE.is("thing and lid", 0, y.out(1));
        DUE.is("cup", 0, y.out(0));
    }

    /** In the order of the run three go before it, but one is enough. */
    static void promise16_fewerThanInTheRun() {
        TogetherOrders x = Things.parts(5);
        Things.dot(x, 3, Things.at(0, 0, 0));
        Things.shell(x, 4, 1, false);
        Things.dot(x, 2, Things.at(0, 0, 1));
        x.run();
        DUE.is("run", 3, x.apart(3));
        DUE.is("out", 1, x.out(3));
    }

    static void promise16_itemsAreCountedNotParts() {
        TogetherOrders x = ran(bores());
        DUE.is("two lie before it", 2, x.out(1));
        x.group(3, 2);
        x.run();
        DUE.is("a group lies before it", 1, x.out(1));
    }

    static void promise16_otherNumberAfterAnotherRun() {
        TogetherOrders x = ran(Things.parts(3));
        DUE.is("out(0)", 0, x.out(0));
        for (int i = 0; i < 3; i++) {
            Things.dot(x, i, Things.at(0, 0, 0));
        }
        x.run();
        for (int i = 0; i < 3; i++) {
            DUE.is("locked: out(" + i + ")", NONE, x.out(i));
        }
        x.group(1, 2);
        x.group(0, 1);
        x.run();
        DUE.is("one item: out(2)", 0, x.out(2));
    }

    static void promise16_turningsAreAskedBefore() {
        TogetherOrders x = ran(Things.chain());
        DUE.is("turnings", 10, x.turnings());
        DUE.is("out(0)", 0, x.out(0));
        DUE.is("out(5)", 5, x.out(5));
        DUE.is("out(11)", 10, x.out(11));
    }

    // Promise 18: keeps.

    static void promise18_notRun() {
        TogetherOrders x = Things.parts(2);
        DUE.noState("no glue", x::keeps);
        x.glue(0, 1, 1000);
        DUE.noState("glue", x::keeps);
    }

    static void promise18_locked() {
        TogetherOrders x = ran(Things.lockedPair());
        DUE.noState("no glue", x::keeps);
        x.glue(0, 1, 0);
        DUE.noState("glue", x::keeps);
        TogetherOrders y = halfLocked();
        y.glue(2, 3, 1000);
        y.run();
        DUE.noState("glue of two that go", y::keeps);
    }

    static void promise18_noPart() {
        DUE.is("keeps", true, ran(new TogetherOrders()).keeps());
    }

    static void promise18_noGlue() {
        DUE.is("keeps", true, ran(Things.chain()).keeps());
    }

    static void promise18_justSoManyAndOneMore() {
        for (int apart = 1; apart <= 11; apart++) {
            TogetherOrders x = ran(Things.parts(12));
            x.glue(0, apart, apart);
            DUE.is(apart + " apart, " + apart + " minutes", true, x.keeps());
            x.glue(0, apart, apart - 1);
            DUE.is(apart + " apart, " + (apart - 1) + " minutes", false, x.keeps());
            TogetherOrders y = ran(Things.parts(12));
            y.glue(apart, 0, apart);
            DUE.is("the other way round", true, y.keeps());
            y.glue(apart, 0, apart - 1);
            DUE.is("the other way round", false, y.keeps());
        }
    }

    static void promise18_noMinutes() {
        TogetherOrders x = Things.parts(2);
        x.glue(0, 1, 0);
        x.run();
        DUE.is("two items", false, x.keeps());
        x.group(1, 0);
        x.run();
        DUE.is("one item", true, x.keeps());
    }

    static void promise18_greatestMinutes() {
        TogetherOrders x = ran(Things.parts(12));
        x.glue(0, 11, 1000);
        DUE.is("keeps", true, x.keeps());
    }

    static void promise18_eachPairIsLookedAt() {
        for (int bad = 0; bad < 16; bad++) {
            TogetherOrders x = ran(Things.parts(3));
            for (int i = 0; i < 16; i++) {
                x.glue(0, 2, i == bad ? 1 : 2);
                DUE.is("glue " + i + ", bad one " + bad, i < bad, x.keeps());
            }
        }
    }

    static void promise18_stepsOfItemsNotNumbers() {
        TogetherOrders x = Things.parts(4);
        x.group(0, 3);
        x.glue(3, 1, 1);
        x.run();
        DUE.is("3 goes with 0", true, x.keeps());
        x.glue(3, 2, 1);
        DUE.is("2 is two steps from 0", false, x.keeps());
        TogetherOrders y = Things.parts(3);
        Things.dot(y, 0, Things.at(0, 0, 0));
        Things.shell(y, 2, 1, false);
        Things.dot(y, 1, Things.at(0, 0, 1));
        y.run();
        // Taken off: 1, 0, 2.
        y.glue(0, 2, 1);
        DUE.is("0 and 2 are neighbours", true, y.keeps());
        y.glue(1, 2, 1);
        DUE.is("1 and 2 are not", false, y.keeps());
    }

    static void promise18_gluedBeforeAndBehindTheRun() {
        TogetherOrders x = Things.parts(3);
        x.glue(0, 1, 1);
        x.run();
        DUE.is("before", true, x.keeps());
        x.glue(0, 2, 1);
        DUE.is("behind", false, x.keeps());
    }
}
