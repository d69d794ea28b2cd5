/** The boundary cases that "What it is" and "Terms" name, one case a method. */
public final class EdgesOfTermsTest {
    private static final Due DUE = new Due("EdgesOfTermsTest");
    private static final int NONE = TogetherOrders.NONE;
    private static final long M = 1000000;

    public static void main(String[] args) throws IllegalAccessException {
        DUE.runCases(EdgesOfTermsTest.class);
        DUE.end();
    }

    private EdgesOfTermsTest() {
    }

    // An object is used for at most 512 calls.

    /** 93 calls tell a full object, 418 ask, and the last one is the 512th. */
    static void calls_the512thIsAnswered() {
        TogetherOrders x = new TogetherOrders();
        for (int i = 0; i < 12; i++) {
            x.part();
        }
        for (int i = 0; i < 40; i++) {
            x.box(i % 12, i * 3, 0, 0, 1, 1);
            x.deep(i, 2);
        }
        x.run();
        for (int i = 0; i < 418; i++) {
            DUE.is("apart(11)", 11, x.apart(11));
        }
        DUE.is("512th call: step(11, 0)", 0, x.step(11, 0));
    }

    static void calls_the512thTells() {
        TogetherOrders x = new TogetherOrders();
        for (int i = 0; i < 511; i++) {
            DUE.is("run()", 0, x.run());
        }
        DUE.is("512th call: part()", 0, x.part());
    }

    static void calls_the512thRuns() {
        TogetherOrders x = Things.parts(2);
        x.box(0, 0, 0, 0, 2, 2);
        x.box(1, 1, 1, 0, 2, 2);
        for (int i = 4; i < 511; i++) {
            DUE.noIndex("deep(2, 1)", () -> x.deep(2, 1));
        }
        DUE.is("512th call: run()", 0, x.run());
    }

    // PARTS 0 .. 11 are BOXES (40 in all).

    static void boxes_40ofOnePart() {
        TogetherOrders x = Things.parts(2);
        for (int i = 0; i < 40; i++) {
            DUE.is("box", i, x.box(1, 2 * i, 0, 0, 1, 1));
        }
        DUE.noState("box 40 of the other part", () -> x.box(0, 0, 0, 0, 1, 1));
    }

    static void boxes_40inAllOfTwelveParts() {
        TogetherOrders x = Things.parts(12);
        for (int i = 0; i < 40; i++) {
            DUE.is("box", i, x.box(11 - i % 12, 2 * i, 0, 0, 1, 1));
        }
        for (int i = 0; i < 12; i++) {
            int part = i;
            DUE.noState("box 40", () -> x.box(part, 0, 0, 0, 1, 1));
        }
    }

    /** All boxes are looked at to the last, and none behind it. */
    static void boxes_40AndAllIsAsked() {
        TogetherOrders x = Things.parts(3);
        for (int i = 0; i < 40; i++) {
            x.box(i % 2, 3 * i, 0, 0, 1, 1);
        }
        DUE.is("free(0, 2, 7)", true, x.free(0, 2, 7));
        DUE.is("free(1, 0, 7)", false, x.free(1, 0, 7));
        DUE.is("free(2, 0, 7)", true, x.free(2, 0, 7));
        DUE.is("clamp(0, 1, 118)", 0, x.clamp(0, 1, 118));
        DUE.is("clamp(0, 1, 117)", 1, x.clamp(0, 1, 117));
        DUE.is("clamp(0, 2, 118)", NONE, x.clamp(0, 2, 118));
        DUE.is("clamp(2, 2, 118)", NONE, x.clamp(2, 2, 118));
        DUE.is("run()", 3, x.run());
        DUE.is("two(2)", 1, x.two(2));
    }

    /** Part 0 has no box at 0, 0, 0 where none was told. */
    static void boxes_noneIsThereUntold() {
        TogetherOrders x = Things.parts(2);
        Things.block(x, 1, Things.at(5, -1, -1), Things.at(2, 2, 2));
        DUE.is("free without boxes", true, x.free(0, 0, 2));
        Things.dot(x, 0, Things.at(0, 9, 0));
        DUE.is("free with a box beside", true, x.free(0, 0, 2));
        DUE.is("clamp", 0, x.clamp(0, 0, 1));
    }

    static void boxes_eachOneOfAPartBars() {
        for (int which = 0; which < 39; which++) {
            TogetherOrders x = Things.parts(2);
            for (int i = 0; i < 39; i++) {
                x.box(0, 2 * i, i == which ? 0 : 5, 0, 1, 1);
            }
            x.box(1, 2 * which, 3, 0, 1, 1);
            DUE.is("free, box " + which + " below", false, x.free(0, 2, 2));
            DUE.is("free back, box " + which + " below", false, x.free(1, 3, 1));
        }
    }

    static void boxes_fromThePlaceOnAsLongAsTold() {
        // x 2 .. 5, y 3 .. 7, z 4 .. 9: what touches one of the six sides is free to pass beside it.
        long[][] beside = {{1, 3, 4}, {5, 3, 4}, {2, 2, 4}, {2, 7, 4}, {2, 3, 3}, {2, 3, 9}};
        long[][] within = {{2, 3, 4}, {4, 3, 4}, {2, 3, 4}, {2, 6, 4}, {2, 3, 4}, {2, 3, 8}};
        for (int side = 0; side < 6; side++) {
            TogetherOrders x = Things.parts(3);
            Things.block(x, 0, Things.at(2, 3, 4), Things.at(3, 4, 5));
            Things.dot(x, 1, beside[side]);
            Things.dot(x, 2, within[side]);
            int along = (side / 2 * 2 + 2) % 6;
            DUE.is("free beside, side " + side, true, x.free(1, along, 1));
            DUE.is("free within, side " + side, false, x.free(2, along, 1));
        }
    }

    static void boxes_depthIs1AtFirst() {
        TogetherOrders x = Things.parts(3);
        x.box(0, 0, 0, 0, 1, 1);
        x.box(1, 3, 0, 1, 1, 1);
        x.box(2, 3, 0, -1, 1, 1);
        DUE.is("free of what begins at its end", true, x.free(0, 0, 2));
        DUE.is("free of what ends at its beginning", true, x.free(0, 0, 4));
        DUE.is("deep(0, 1)", false, x.deep(0, 1));
        DUE.is("deep(0, 2)", true, x.deep(0, 2));
        DUE.is("free when deeper", false, x.free(0, 0, 2));
    }

    // DIRECTIONS are 0 .. 5 and told SLANTS 6 .. 9.

    static void directions_eachHasItsOwnWay() {
        long[][] places = {{3, 0, 0}, {-3, 0, 0}, {0, 3, 0}, {0, -3, 0}, {0, 0, 3}, {0, 0, -3}};
        for (int where = 0; where < 6; where++) {
            TogetherOrders x = Things.parts(2);
            Things.dot(x, 0, Things.at(0, 0, 0));
            Things.dot(x, 1, places[where]);
            for (int d = 0; d < 6; d++) {
                DUE.is("direction " + d + ", other at " + where, d != where, x.free(0, d, 2));
                DUE.is("back, direction " + d + ", other at " + where, d != (where ^ 1), x.free(1, d, 1));
            }
        }
    }

    static void directions_below0AndBehindTheLast() {
        TogetherOrders x = Things.parts(1);
        int[] none = {-1, 6, 10, Integer.MIN_VALUE, Integer.MAX_VALUE};
        for (int d : none) {
            DUE.noIndex("free(0, " + d + ", 0)", () -> x.free(0, d, 0));
        }
    }

    static void directions_oneMoreForEachSlant() {
        TogetherOrders x = Things.parts(1);
        for (int last = 6; last <= 9; last++) {
            int next = last + 1;
            x.slant(1, 1, last);
            DUE.is("direction " + last, true, x.free(0, last, 1));
            DUE.noIndex("direction " + next, () -> x.free(0, next, 1));
        }
        x.slant(1, 2, 3);
        DUE.noIndex("direction 10, slant without room", () -> x.free(0, 10, 1));
    }

    static void directions_eachSlantHasItsOwnWay() {
        long[][] ways = {{1, 1, 0}, {-1, 1, 0}, {0, -1, 1}, {0, 0, -1}};
        TogetherOrders x = Things.parts(5);
        Things.dot(x, 0, Things.at(0, 0, 0));
        for (int i = 0; i < 4; i++) {
            x.slant(ways[i][0], ways[i][1], ways[i][2]);
            Things.dot(x, i + 1, Things.at(4 * ways[i][0], 4 * ways[i][1], 4 * ways[i][2]));
        }
        for (int way = 0; way < 4; way++) {
            for (int other = 0; other < 4; other++) {
                DUE.is("slant " + way + ", part " + (other + 1), way != other, x.free(0, 6 + way, 2L << other));
            }
        }
    }

    // BARRED and OVERLAPS. (Parts may touch.)

    static void barred_touchingSides() {
        long[][] places = {{1, 0, 0}, {-1, 0, 0}, {0, 1, 0}, {0, -1, 0}, {0, 0, 1}, {0, 0, -1}};
        for (int where = 0; where < 6; where++) {
            TogetherOrders x = Things.parts(2);
            Things.dot(x, 0, Things.at(0, 0, 0));
            Things.dot(x, 1, places[where]);
            for (int d = 0; d < 6; d++) {
                DUE.is("direction " + d + ", touched at " + where, d != where, x.free(0, d, 2));
            }
        }
    }

    static void barred_touchingEdgesAndCorners() {
        long[][] places = {{1, 1, 0}, {-1, 1, 0}, {0, -1, 1}, {1, 0, -1}, {1, 1, 1}, {-1, -1, -1}, {1, -1, 1}};
        for (long[] p : places) {
            TogetherOrders x = Things.parts(2);
            Things.dot(x, 0, Things.at(0, 0, 0));
            Things.dot(x, 1, p);
            x.slant(p[0], p[1], p[2]);
            x.slant(-p[0], -p[1], -p[2]);
            for (int d = 0; d < 8; d++) {
                DUE.is("direction " + d + ", " + p[0] + " " + p[1] + " " + p[2], d != 6, x.free(0, d, 2));
            }
        }
    }

    static void barred_overlapBy1AtRestBarsAllWays() {
        long[][] places = {{2, 0, 0}, {-2, 0, 0}, {0, 2, 0}, {0, -2, 0}, {0, 0, 2}, {0, 0, -2}, {2, 2, 2}};
        for (long[] p : places) {
            TogetherOrders x = Things.parts(2);
            Things.block(x, 0, Things.at(0, 0, 0), Things.at(3, 3, 3));
            Things.block(x, 1, p, Things.at(3, 3, 3));
            x.slant(-p[0], -p[1], -p[2]);
            for (int d = 0; d < 7; d++) {
                DUE.is("direction " + d, false, x.free(0, d, 2));
                DUE.is("back, direction " + d, false, x.free(1, d, 1));
            }
        }
    }

    static void barred_sameBoxAndBoxWithinBox() {
        TogetherOrders x = Things.parts(3);
        Things.block(x, 0, Things.at(0, 0, 0), Things.at(3, 3, 3));
        Things.block(x, 1, Things.at(0, 0, 0), Things.at(3, 3, 3));
        Things.dot(x, 2, Things.at(1, 1, 1));
        for (int d = 0; d < 6; d++) {
            DUE.is("same box", false, x.free(0, d, 2));
            DUE.is("box round it", false, x.free(2, d, 1));
            DUE.is("box within it", false, x.free(0, d, 4));
        }
    }

    static void barred_slantPassesJustBesideACorner() {
        TogetherOrders x = Things.parts(2);
        Things.dot(x, 0, Things.at(0, 0, 0));
        Things.dot(x, 1, Things.at(2, 0, 0));
        x.slant(1, 1, 0);
        x.slant(1000, 999, 0);
        x.slant(999, 1000, 0);
        x.slant(1000, 0, -999);
        DUE.is("corner along corner", true, x.free(0, 6, 2));
        DUE.is("just too flat", false, x.free(0, 7, 2));
        DUE.is("just steep enough", true, x.free(0, 8, 2));
        DUE.is("just too flat in z", false, x.free(0, 9, 2));
    }

    /** The other one is met from 0 on, or only behind the whole way: no whole t tells it. */
    static void barred_soonestAndLatestTimes() {
        TogetherOrders x = Things.parts(3);
        Things.dot(x, 0, Things.at(-M, 0, 0));
        Things.dot(x, 1, Things.at(1 - M, 0, 0));
        x.box(2, M, 0, 0, M, 1);
        x.slant(1000, 0, 0);
        x.slant(1, 0, 0);
        x.slant(-1, 0, 0);
        DUE.is("direction 0, beside it", false, x.free(0, 0, 2));
        DUE.is("slant of 1000, beside it", false, x.free(0, 6, 2));
        DUE.is("direction 0, as far as can be", false, x.free(0, 0, 4));
        DUE.is("slant of 1, as far as can be", false, x.free(0, 7, 4));
        DUE.is("slant of 1000, as far as can be", false, x.free(0, 6, 4));
        DUE.is("away from them", true, x.free(0, 8, 6));
    }

    /** Where it was before the beginning does not bar. */
    static void barred_onlyTimesAbove0() {
        TogetherOrders x = Things.parts(2);
        Things.dot(x, 0, Things.at(0, 0, 0));
        Things.dot(x, 1, Things.at(-2, -3, -1));
        x.slant(2, 3, 1);
        x.slant(-2, -3, -1);
        DUE.is("it lies behind", true, x.free(0, 6, 2));
        DUE.is("it lies before", false, x.free(0, 7, 2));
    }

    static void barred_eachAxisMustOverlap() {
        long[][] places = {{5, 1, 0}, {5, 0, 1}, {5, -1, 0}, {5, 0, -1}};
        for (long[] p : places) {
            TogetherOrders x = Things.parts(2);
            Things.dot(x, 0, Things.at(0, 0, 0));
            Things.dot(x, 1, p);
            DUE.is("passes beside", true, x.free(0, 0, 2));
        }
    }

    static void barred_noBoxesBarNothing() {
        TogetherOrders x = Things.parts(2);
        x.box(1, -M, -M, -M, M, M);
        for (int d = 0; d < 6; d++) {
            DUE.is("part without boxes", true, x.free(0, d, 2));
            DUE.is("of a part without boxes", true, x.free(1, d, 1));
        }
    }

    // GROUPS and ITEMS.

    static void groups_allTwelveAreOneItem() {
        TogetherOrders x = Things.heap();
        for (int i = 10; i >= 0; i--) {
            DUE.is("group", true, x.group(i + 1, i));
        }
        DUE.is("run()", 1, x.run());
        DUE.is("item", 0, x.step(0, 0));
        DUE.is("bits", 4095, x.step(0, 2));
        DUE.is("hang together", false, x.group(11, 0));
    }

    static void groups_hangTogetherOverOthers() {
        TogetherOrders x = Things.parts(12);
        x.group(11, 10);
        x.group(9, 8);
        DUE.is("run()", 10, x.run());
        x.group(10, 9);
        DUE.is("ends of the chain", false, x.group(11, 8));
        DUE.is("run()", 9, x.run());
        DUE.is("least part's number", 8, x.step(0, 0));
        DUE.is("bits", 0xf00, x.step(0, 2));
    }

    static void groups_barTheirItemNotOneAnother() {
        TogetherOrders x = Things.lockedPair();
        x.group(1, 0);
        DUE.is("run()", 1, x.run());
        DUE.is("locked(0)", NONE, x.locked(0));
    }

    static void groups_eachPartOfAnItemMustBeFree() {
        TogetherOrders x = Things.parts(4);
        Things.dot(x, 0, Things.at(0, 0, 0));
        Things.shell(x, 2, 1, true);
        Things.dot(x, 3, Things.at(9, 9, 9));
        DUE.is("part 3 is not barred", true, x.free(3, 0, 15));
        x.group(0, 3);
        x.run();
        DUE.is("run()", 0, x.run());
        DUE.is("goes", 1, x.apart(0));
        DUE.is("locked", 0, x.locked(0));
        DUE.is("locked", 2, x.locked(1));
        DUE.is("locked", 3, x.locked(2));
        DUE.is("locked", NONE, x.locked(3));
    }

    // TAKEN APART.

    static void takenApart_leastNumberAndLeastDirection() {
        TogetherOrders x = Things.zigzag();
        DUE.is("run()", 12, x.run());
        for (int i = 0; i < 12; i++) {
            DUE.is("apart", i, x.apart(i));
            DUE.is("direction", i % 2 == 0 ? 1 : 0, x.step(11 - i, 1));
        }
    }

    static void takenApart_beginsAgainWithTheLeast() {
        TogetherOrders x = Things.parts(3);
        Things.dot(x, 0, Things.at(0, 0, 0));
        Things.shell(x, 2, 1, false);
        Things.dot(x, 1, Things.at(0, 0, 1));
        x.run();
        DUE.is("first", 1, x.apart(0));
        DUE.is("then the least again", 0, x.apart(1));
        DUE.is("last", 2, x.apart(2));
    }

    static void takenApart_bySlants6To9() {
        for (int last = 6; last <= 9; last++) {
            TogetherOrders x = Things.slit();
            for (int way = 6; way < last; way++) {
                x.slant(-1, 0, 0);
            }
            DUE.is("run() before", 0, x.run());
            x.slant(1, 0, 1);
            DUE.is("run()", 2, x.run());
            DUE.is("direction", last, x.step(1, 1));
            DUE.is("item", 0, x.step(1, 0));
        }
    }

    // A call that throws changes nothing.

    private interface Wrong {
        void on(TogetherOrders x);
    }

    private static TogetherOrders tellable() {
        TogetherOrders x = Things.cup();
        x.glue(0, 1, 1);
        x.run();
        return x;
    }

    /** Wrong calls on an object that has room for all. */
    static void throwing_changesNothing() {
        Wrong[] wrongs = {
            x -> x.box(3, 0, 0, 0, 1, 1), x -> x.box(-1, 0, 0, 0, 1, 1), x -> x.box(1, M + 1, 0, 0, 1, 1),
            x -> x.box(1, 0, -M - 1, 0, 1, 1), x -> x.box(1, 0, 0, M + 1, 1, 1), x -> x.box(1, 9, 9, 9, 0, 1),
            x -> x.box(1, 9, 9, 9, 1, M + 1), x -> x.deep(-1, 2), x -> x.deep(7, 2), x -> x.deep(0, 0),
            x -> x.deep(5, M + 1), x -> x.slant(0, 0, 0), x -> x.slant(1001, 0, 0), x -> x.slant(0, -1001, 0),
            x -> x.slant(0, 0, 1001), x -> x.group(0, 3), x -> x.group(-1, 0), x -> x.group(1, 1),
            x -> x.free(0, 6, 0), x -> x.free(3, 0, 0), x -> x.free(0, 0, 8), x -> x.step(3, 0), x -> x.step(0, 3),
            x -> x.apart(-1), x -> x.locked(-1), x -> x.stage(-1), x -> x.two(-1), x -> x.two(3),
            x -> x.hands(1, -1), x -> x.hands(0, 0), x -> x.hands(13, 0), x -> x.out(-1), x -> x.out(3),
            x -> x.glue(0, 3, 0), x -> x.glue(2, 2, 0), x -> x.glue(0, 2, -1), x -> x.glue(0, 2, 1001),
            x -> x.clamp(3, 0, 1), x -> x.clamp(0, 1, -1)
        };
        String before = Things.answers(tellable());
        for (int i = 0; i < wrongs.length; i++) {
            TogetherOrders x = tellable();
            int which = i;
            DUE.is("call " + i + " throws", true, Due.told(() -> callOf(wrongs[which], x)).startsWith("throws"));
            DUE.is("all answers behind call " + i, before, Things.answers(x));
            DUE.is("the next box behind call " + i, 7, x.box(0, 0, 0, 0, 1, 1));
            DUE.is("the next part behind call " + i, 3, x.part());
            for (int k = 0; k < 15; k++) {
                DUE.is("room for glue behind call " + i, true, x.glue(0, 1, 9));
            }
            DUE.is("no room for glue behind call " + i, false, x.glue(0, 1, 9));
            for (int k = 0; k < 4; k++) {
                DUE.is("room for a slant behind call " + i, true, x.slant(1, 1, 1));
            }
        }
    }

    private static long callOf(Wrong wrong, TogetherOrders x) {
        wrong.on(x);
        return 0;
    }

    /** Calls that throw since there is no room, or it was not run. */
    static void throwing_withoutRoomChangesNothing() {
        TogetherOrders x = Things.parts(12);
        for (int i = 0; i < 40; i++) {
            x.box(i % 12, 3 * i, 0, 0, 1, 1);
        }
        DUE.is("run()", 12, x.run());
        DUE.noState("part()", x::part);
        DUE.noState("box(..)", () -> x.box(0, 0, 9, 0, 1, 1));
        DUE.is("still run", 12, x.hands(12, 0));
        DUE.noIndex("there is no part 12", () -> x.out(12));
        DUE.noIndex("there is no box 40", () -> x.deep(40, 2));
        DUE.is("part 0 is as wide as before", 1, x.clamp(0, 0, 5));
        DUE.is("run() again", 12, x.run());
    }

    static void throwing_whenNotRunDoesNotRun() {
        TogetherOrders x = Things.parts(1);
        DUE.noState("step", () -> x.step(0, 0));
        DUE.noState("step again", () -> x.step(0, 0));
        DUE.noState("turnings", x::turnings);
        DUE.noState("keeps", x::keeps);
        DUE.is("run()", 1, x.run());
        DUE.is("step", 0, x.step(0, 0));
    }

    // It was not run since something was told.

    private static void allNeedARun(String why, TogetherOrders x) {
        DUE.noState(why + ": step", () -> x.step(0, 0));
        DUE.noState(why + ": apart", () -> x.apart(0));
        DUE.noState(why + ": locked", () -> x.locked(0));
        DUE.noState(why + ": stage", () -> x.stage(0));
        DUE.noState(why + ": turnings", x::turnings);
        DUE.noState(why + ": two", () -> x.two(0));
        DUE.noState(why + ": hands", () -> x.hands(1, 0));
        DUE.noState(why + ": out", () -> x.out(0));
        DUE.noState(why + ": keeps", x::keeps);
    }

    private static void allAreAnswered(String why, TogetherOrders x) {
        DUE.is(why + ": step", 0, x.step(0, 1));
        DUE.is(why + ": apart", 0, x.apart(0));
        DUE.is(why + ": locked", NONE, x.locked(0));
        DUE.is(why + ": stage", 0, x.stage(0));
        DUE.is(why + ": turnings", 0, x.turnings());
        DUE.is(why + ": two", 1, x.two(0));
        DUE.is(why + ": hands", 1, x.hands(1, 0));
        DUE.is(why + ": out", 0, x.out(0));
        DUE.is(why + ": keeps", true, x.keeps());
    }

    private static TogetherOrders ranPair() {
        TogetherOrders x = Things.parts(2);
        x.box(0, 0, 0, 0, 1, 1);
        x.run();
        return x;
    }

    static void notRun_neverRun() {
        allNeedARun("new", new TogetherOrders());
        TogetherOrders x = Things.parts(2);
        allNeedARun("never run", x);
        x.run();
        allAreAnswered("run", x);
    }

    static void notRun_partTold() {
        TogetherOrders x = ranPair();
        x.part();
        allNeedARun("part", x);
        x.run();
        allAreAnswered("run again", x);
    }

    static void notRun_boxTold() {
        TogetherOrders x = ranPair();
        x.box(1, 0, 5, 0, 1, 1);
        allNeedARun("box", x);
        x.run();
        allAreAnswered("run again", x);
    }

    static void notRun_otherSizeTold() {
        TogetherOrders x = ranPair();
        x.deep(0, 2);
        allNeedARun("deep", x);
        x.run();
        allAreAnswered("run again", x);
    }

    static void notRun_slantTold() {
        TogetherOrders x = ranPair();
        for (int i = 0; i < 4; i++) {
            x.slant(1, i, 1);
            allNeedARun("slant", x);
            x.run();
            allAreAnswered("run again", x);
        }
    }

    static void notRun_groupTold() {
        TogetherOrders x = ranPair();
        x.group(1, 0);
        allNeedARun("group", x);
        x.run();
        allAreAnswered("run again", x);
    }

    /** What is told and taken back is told all the same. */
    static void notRun_otherSizeAndBack() {
        TogetherOrders x = ranPair();
        x.deep(0, 2);
        x.deep(0, 1);
        allNeedARun("deep and back", x);
    }

    static void stillRun_sameSize() {
        TogetherOrders x = ranPair();
        DUE.is("deep", false, x.deep(0, 1));
        allAreAnswered("deep", x);
    }

    static void stillRun_slantWithoutRoom() {
        TogetherOrders x = Things.parts(2);
        for (int i = 0; i < 4; i++) {
            x.slant(1, 0, i);
        }
        x.run();
        DUE.is("slant", false, x.slant(0, 1, 0));
        allAreAnswered("slant", x);
    }

    static void stillRun_sameGroup() {
        TogetherOrders x = Things.parts(3);
        x.group(0, 1);
        x.group(1, 2);
        x.run();
        DUE.is("group", false, x.group(2, 0));
        allAreAnswered("group", x);
    }

    static void stillRun_glueTold() {
        TogetherOrders x = ranPair();
        DUE.is("glue", true, x.glue(0, 1, 1));
        allAreAnswered("glue", x);
    }

    static void stillRun_asked() {
        TogetherOrders x = ranPair();
        x.free(0, 0, 3);
        x.clamp(0, 1, 1);
        x.turnings();
        x.two(2);
        x.out(1);
        x.run();
        allAreAnswered("asked", x);
    }

    // Some are LOCKED where steps are asked (step, stage, keeps).

    static void lockedOnes_stopStepStageAndKeeps() {
        TogetherOrders x = Things.lockedPair();
        x.run();
        DUE.noState("step", () -> x.step(0, 0));
        DUE.noState("stage", () -> x.stage(0));
        DUE.noState("keeps", x::keeps);
    }

    static void lockedOnes_stopStepStageAndKeepsAlsoWhereSomeGo() {
        TogetherOrders x = Things.lockedPair();
        x.part();
        x.part();
        x.run();
        DUE.is("apart(0)", 2, x.apart(0));
        DUE.noState("step", () -> x.step(0, 0));
        DUE.noState("stage", () -> x.stage(0));
        DUE.noState("keeps", x::keeps);
    }

    static void lockedOnes_stopNothingElse() {
        TogetherOrders x = Things.lockedPair();
        x.part();
        x.run();
        DUE.is("apart", 2, x.apart(0));
        DUE.is("locked", 0, x.locked(0));
        DUE.is("turnings", NONE, x.turnings());
        DUE.is("two", 1, x.two(0));
        DUE.is("hands", 1, x.hands(12, 0));
        DUE.is("out", NONE, x.out(1));
        DUE.is("out", 0, x.out(2));
    }
}
