import java.util.ArrayList;
import java.util.List;

/** Long runs of calls, made by a fixed rule, on the class and on the slow model beside it. */
public final class OracleTest {
    private static final Due DUE = new Due("OracleTest");
    private static final int RUNS = 1500;
    private static final int CALLS = 512;

    /** A row of numbers that is the same each time. */
    private static final class Numbers {
        private long state;

        Numbers(long seed) {
            state = seed * 2862933555777941757L + 3037000493L;
        }

        int below(int bound) {
            state = state * 6364136223846793005L + 1442695040888963407L;
            return (int) ((state >>> 33) % bound);
        }

        long from(long least, long most) {
            return least + below((int) (most - least + 1));
        }

        boolean oneIn(int n) {
            return below(n) == 0;
        }
    }

    private final Numbers numbers;
    private final TogetherOrders real = new TogetherOrders();
    private final Model model = new Model();
    private final List<String> told = new ArrayList<>();
    private int parts = 0;
    private int boxes = 0;
    private int lockedRuns = 0;
    private final int[] twos = new int[4];

    private OracleTest(long seed) {
        numbers = new Numbers(seed);
    }

    public static void main(String[] args) {
        int locked = 0;
        int[] twos = new int[4];
        for (int seed = 0; seed < RUNS && !DUE.hasFault(); seed++) {
            OracleTest test = new OracleTest(seed);
            test.runOfCalls(seed);
            locked += test.lockedRuns;
            for (int i = 0; i < 4; i++) {
                twos[i] += test.twos[i];
            }
        }
        System.out.println(locked + " locked runs; two answered 0 .. 3 so often: "
            + twos[0] + " " + twos[1] + " " + twos[2] + " " + twos[3]);
        if (locked == 0 || twos[0] == 0 || twos[2] == 0 || twos[3] == 0) {
            DUE.tell("the runs have left an answer out");
        }
        DUE.end();
    }

    private void runOfCalls(int seed) {
        int most = seed % 10 == 0 ? 12 : 2 + numbers.below(4);
        int kind = seed % 5;
        for (int i = numbers.below(most); i >= 0; i--) {
            tellPart();
        }
        if (kind == 1) {
            tellShell(numbers.below(parts));
        }
        if (kind == 2) {
            tellPuzzle();
        }
        int boxesFirst = kind == 2 ? 0 : numbers.below(most * 2 + 1);
        for (int i = 0; i < boxesFirst; i++) {
            tellBox(kind);
        }
        if (kind == 2) {
            compare("run()", () -> real.run(), () -> model.run());
            askAll();
        }
        for (int round = 0; round < 4 && told.size() < CALLS - 120; round++) {
            for (int i = numbers.below(6); i >= 0; i--) {
                tellSomething(kind, most);
            }
            if (!numbers.oneIn(6)) {
                long steps = compare("run()", () -> real.run(), () -> model.run());
                lockedRuns += steps == 0 && parts > 0 ? 1 : 0;
            }
            askAll();
        }
    }

    private long compare(String call, Due.Call mine, Due.Call due) {
        told.add(call);
        String got = answer(mine);
        String want = answer(due);
        if (!got.equals(want)) {
            DUE.tell(String.join("; ", told) + " answered " + got + ", due is " + want);
        }
        return got.startsWith("throws") ? -2 : Long.parseLong(got);
    }

    private static String answer(Due.Call call) {
        try {
            return Long.toString(call.answer());
        } catch (RuntimeException e) {
            return "throws." + e.getClass().getSimpleName();
        }
    }

    private int somePart() {
        return numbers.oneIn(25) ? (int) numbers.from(-1, parts + 1) : numbers.below(Math.max(1, parts));
    }

    private void tellPart() {
        if (compare("part()", () -> real.part(), () -> model.part()) >= 0) {
            parts++;
        }
    }

    private void tellBoxAt(int part, long[] from, long[] size) {
        String call = "box(" + part + ", " + from[0] + ", " + from[1] + ", " + from[2] + ", " + size[0] + ", " + size[1] + ")";
        long box = compare(call, () -> real.box(part, from[0], from[1], from[2], size[0], size[1]),
            () -> model.box(part, from[0], from[1], from[2], size[0], size[1]));
        if (box >= 0) {
            boxes++;
            tellDeep((int) box, size[2]);
        }
    }

    private void tellDeep(int box, long d) {
        compare("deep(" + box + ", " + d + ")", () -> Due.bit(real.deep(box, d)), () -> Due.bit(model.deep(box, d)));
    }

    /** Walls with some left out or too short, so that things may slip out behind small moves. */
    private void tellShell(int part) {
        int edge = 3 + numbers.below(3);
        for (int wall = 0; wall < 6; wall++) {
            if (numbers.oneIn(9)) {
                continue;
            }
            long[] from = {-1, -1, -1};
            long[] size = {edge + 2, edge + 2, edge + 2};
            from[wall / 2] = wall % 2 == 0 ? -1 : edge;
            size[wall / 2] = 1;
            if (numbers.oneIn(3)) {
                int axis = (wall / 2 + 1 + numbers.below(2)) % 3;
                long cut = numbers.from(1, 2);
                size[axis] -= cut;
                from[axis] += numbers.oneIn(2) ? cut : 0;
            }
            tellBoxAt(part, from, size);
        }
    }

    /** A closed shell with a small hole in its lid and one thing in it, perhaps cut in two. */
    private void tellPuzzle() {
        int edge = 3;
        long x = numbers.below(3);
        long y = numbers.below(3);
        long[][] walls = {
            {-1, -1, -1, 1, 5, 5}, {3, -1, -1, 1, 5, 5}, {-1, -1, -1, 5, 1, 5}, {-1, 3, -1, 5, 1, 5},
            {-1, -1, -1, 5, 5, 1},
            {-1, -1, 3, x + 1, 5, 1}, {x + 1, -1, 3, edge - x, 5, 1}, {-1, -1, 3, 5, y + 1, 1}, {-1, y + 1, 3, 5, edge - y, 1}
        };
        for (long[] w : walls) {
            tellBoxAt(0, new long[] {w[0], w[1], w[2]}, new long[] {w[3], w[4], w[5]});
        }
        for (int part = 1; part < parts; part++) {
            tellBoxAt(part, new long[] {numbers.below(3), numbers.below(3), numbers.below(3)}, new long[] {1, 1, 1});
        }
    }

    private void tellBox(int kind) {
        long[] from = new long[3];
        long[] size = new long[3];
        for (int i = 0; i < 3; i++) {
            if (kind == 4) {
                from[i] = numbers.from(-1000000, 1000000);
                size[i] = numbers.from(1, numbers.oneIn(2) ? 1000000 : 50000);
            } else if (kind == 3) {
                from[i] = numbers.from(0, 9);
                size[i] = numbers.from(1, 3);
            } else {
                from[i] = numbers.from(0, 4);
                size[i] = numbers.from(1, 2);
            }
        }
        if (numbers.oneIn(30)) {
            from[numbers.below(3)] = numbers.oneIn(2) ? 1000001 : -1000001;
        }
        if (numbers.oneIn(30)) {
            size[numbers.below(3)] = numbers.oneIn(2) ? 0 : 1000001;
        }
        tellBoxAt(somePart(), from, size);
    }

    private void tellSlant(int kind) {
        long most = kind == 4 ? 1000 : 3;
        long[] s = {numbers.from(-most, most), numbers.from(-most, most), numbers.from(-most, most)};
        if (numbers.oneIn(20)) {
            s[numbers.below(3)] = numbers.oneIn(2) ? 1001 : -1001;
        }
        compare("slant(" + s[0] + ", " + s[1] + ", " + s[2] + ")",
            () -> Due.bit(real.slant(s[0], s[1], s[2])), () -> Due.bit(model.slant(s[0], s[1], s[2])));
    }

    private void tellSomething(int kind, int most) {
        int a = somePart();
        int b = somePart();
        switch (numbers.below(9)) {
            case 0:
                if (parts < most || most == 12) {
                    tellPart();
                }
                break;
            case 1:
            case 2:
            case 3:
                tellBox(kind);
                break;
            case 4:
                tellDeep((int) numbers.from(-1, boxes), numbers.from(0, 5));
                break;
            case 5:
                tellSlant(kind);
                break;
            case 6:
                compare("group(" + a + ", " + b + ")", () -> Due.bit(real.group(a, b)), () -> Due.bit(model.group(a, b)));
                break;
            default:
                int minutes = numbers.oneIn(9) ? (int) numbers.from(-1, 1001) : numbers.below(4);
                compare("glue(" + a + ", " + b + ", " + minutes + ")",
                    () -> Due.bit(real.glue(a, b, minutes)), () -> Due.bit(model.glue(a, b, minutes)));
        }
    }

    private void askAll() {
        for (int i = 0; i < 8; i++) {
            int a = somePart();
            int b = somePart();
            int way = (int) numbers.from(-1, 9);
            long bits = numbers.oneIn(9) ? numbers.from(-1, 9000) : numbers.below(1 << parts);
            compare("free(" + a + ", " + way + ", " + bits + ")",
                () -> Due.bit(real.free(a, way, bits)), () -> Due.bit(model.free(a, way, bits)));
            long reach = numbers.from(-1, 12) * (numbers.oneIn(4) ? 250000 : 1);
            compare("clamp(" + a + ", " + b + ", " + reach + ")",
                () -> real.clamp(a, b, reach), () -> model.clamp(a, b, reach));
        }
        for (int i = -1; i <= Math.min(parts, 6); i++) {
            int k = i;
            int what = (int) numbers.from(-1, 3);
            int n = (int) numbers.from(0, 13);
            compare("step(" + k + ", " + what + ")", () -> real.step(k, what), () -> model.step(k, what));
            compare("apart(" + k + ")", () -> real.apart(k), () -> model.apart(k));
            compare("locked(" + k + ")", () -> real.locked(k), () -> model.locked(k));
            compare("stage(" + k + ")", () -> real.stage(k), () -> model.stage(k));
            compare("hands(" + n + ", " + k + ")", () -> real.hands(n, k), () -> model.hands(n, k));
            compare("out(" + k + ")", () -> real.out(k), () -> model.out(k));
        }
        compare("turnings()", () -> real.turnings(), () -> model.turnings());
        compare("keeps()", () -> Due.bit(real.keeps()), () -> Due.bit(model.keeps()));
        int depth = numbers.oneIn(12) ? (int) numbers.from(-1, 3) : numbers.below(parts < 6 ? 3 : 2);
        long two = compare("two(" + depth + ")", () -> real.two(depth), () -> model.two(depth));
        if (two >= 0) {
            twos[(int) two]++;
        }
        if (depth == 2) {
            compare("two(1)", () -> real.two(1), () -> model.two(1));
        }
    }
}
