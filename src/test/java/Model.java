import java.util.ArrayList;
import java.util.HashMap;
import java.util.HashSet;
import java.util.List;
import java.util.Map;
import java.util.Set;
import java.util.TreeMap;
import java.util.TreeSet;

/**
 * A second program for the same document, written for plainness alone: it looks at all that can
 * happen, and holds nothing that it could find again.
 */
final class Model {
    private static final class Box {
        final int part;
        final long[] from;
        final long[] size;

        Box(int part, long[] from, long[] size) {
            this.part = part;
            this.from = from;
            this.size = size;
        }
    }

    private final List<Integer> parts = new ArrayList<>();
    private final List<Box> boxes = new ArrayList<>();
    private final List<long[]> ways = new ArrayList<>();
    private final List<int[]> pairs = new ArrayList<>();
    private final List<int[]> glues = new ArrayList<>();
    private boolean ran = false;

    Model() {
        for (int axis = 0; axis < 3; axis++) {
            for (int sign = 1; sign >= -1; sign -= 2) {
                long[] way = new long[3];
                way[axis] = sign;
                ways.add(way);
            }
        }
    }

    private void index(boolean ok) {
        if (!ok) {
            throw new IndexOutOfBoundsException();
        }
    }

    private void state(boolean ok) {
        if (!ok) {
            throw new IllegalStateException();
        }
    }

    private void argument(boolean ok) {
        if (!ok) {
            throw new IllegalArgumentException();
        }
    }

    private boolean isPart(int p) {
        return parts.contains(p);
    }

    int part() {
        state(parts.size() < 12);
        parts.add(parts.size());
        ran = false;
        return parts.size() - 1;
    }

    int box(int part, long x, long y, long z, long w, long h) {
        index(isPart(part));
        state(boxes.size() < 40);
        for (long place : new long[] {x, y, z}) {
            argument(-1000000 <= place && place <= 1000000);
        }
        for (long size : new long[] {w, h}) {
            argument(1 <= size && size <= 1000000);
        }
        boxes.add(new Box(part, new long[] {x, y, z}, new long[] {w, h, 1}));
        ran = false;
        return boxes.size() - 1;
    }

    boolean deep(int box, long d) {
        index(0 <= box && box < boxes.size());
        argument(1 <= d && d <= 1000000);
        if (boxes.get(box).size[2] == d) {
            return false;
        }
        boxes.get(box).size[2] = d;
        ran = false;
        return true;
    }

    boolean slant(long x, long y, long z) {
        argument(x != 0 || y != 0 || z != 0);
        for (long s : new long[] {x, y, z}) {
            argument(-1000 <= s && s <= 1000);
        }
        if (ways.size() == 10) {
            return false;
        }
        ways.add(new long[] {x, y, z});
        ran = false;
        return true;
    }

    boolean group(int a, int b) {
        index(isPart(a) && isPart(b));
        argument(a != b);
        if (itemOf(a) == itemOf(b)) {
            return false;
        }
        pairs.add(new int[] {a, b});
        ran = false;
        return true;
    }

    /** The least part that can be walked to over told pairs. */
    private int itemOf(int part) {
        TreeSet<Integer> seen = new TreeSet<>();
        seen.add(part);
        for (int round = 0; round < 12; round++) {
            for (int[] pair : pairs) {
                if (seen.contains(pair[0]) || seen.contains(pair[1])) {
                    seen.add(pair[0]);
                    seen.add(pair[1]);
                }
            }
        }
        return seen.first();
    }

    private TreeSet<Integer> items() {
        TreeSet<Integer> all = new TreeSet<>();
        for (int p : parts) {
            all.add(itemOf(p));
        }
        return all;
    }

    private static boolean overlap(long[] a, long[] aSize, long[] b, long[] bSize) {
        for (int i = 0; i < 3; i++) {
            if (Math.max(a[i], b[i]) >= Math.min(a[i] + aSize[i], b[i] + bSize[i])) {
                return false;
            }
        }
        return true;
    }

    /** Whether the boxes overlap at the time top / bottom; everything is made greater by bottom. */
    private static boolean overlapAt(long top, long bottom, long[] way, Box a, Box b) {
        long[][] grown = new long[4][3];
        for (int i = 0; i < 3; i++) {
            grown[0][i] = a.from[i] * bottom + way[i] * top;
            grown[1][i] = a.size[i] * bottom;
            grown[2][i] = b.from[i] * bottom;
            grown[3][i] = b.size[i] * bottom;
        }
        return overlap(grown[0], grown[1], grown[2], grown[3]);
    }

    /** Looks between all times at which a side of one box passes a side of the other one. */
    private static boolean boxBarred(Box a, Box b, long[] way) {
        List<long[]> times = new ArrayList<>();
        times.add(new long[] {0, 1});
        for (int i = 0; i < 3; i++) {
            if (way[i] != 0) {
                long sign = way[i] < 0 ? -1 : 1;
                times.add(new long[] {sign * (b.from[i] - a.from[i] - a.size[i]), sign * way[i]});
                times.add(new long[] {sign * (b.from[i] + b.size[i] - a.from[i]), sign * way[i]});
            }
        }
        times.removeIf(t -> t[0] < 0);
        times.sort((s, t) -> Long.compare(s[0] * t[1], t[0] * s[1]));
        for (int i = 0; i + 1 < times.size(); i++) {
            long[] s = times.get(i);
            long[] t = times.get(i + 1);
            if (overlapAt(s[0] * t[1] + t[0] * s[1], 2 * s[1] * t[1], way, a, b)) {
                return true;
            }
        }
        long[] last = times.get(times.size() - 1);
        return overlapAt(last[0] + last[1], last[1], way, a, b);
    }

    private Box moved(Box box, Map<Integer, long[]> shifts) {
        long[] by = shifts.getOrDefault(itemOf(box.part), new long[3]);
        return new Box(box.part,
            new long[] {box.from[0] + by[0], box.from[1] + by[1], box.from[2] + by[2]}, box.size);
    }

    private boolean partBarred(int part, int other, long[] way) {
        for (Box a : boxes) {
            for (Box b : boxes) {
                if (a.part == part && b.part == other && boxBarred(a, b, way)) {
                    return true;
                }
            }
        }
        return false;
    }

    boolean free(int part, int direction, long bits) {
        index(isPart(part) && 0 <= direction && direction < ways.size());
        for (int i = 0; i < 64; i++) {
            argument((bits >>> i & 1) == 0 || isPart(i));
        }
        for (int other : parts) {
            if (other != part && (bits >>> other & 1) == 1 && partBarred(part, other, ways.get(direction))) {
                return false;
            }
        }
        return true;
    }

    private final Map<String, Boolean> known = new HashMap<>();

    private boolean itemBarred(int item, int other, int way) {
        String key = item + " " + other + " " + way;
        Boolean answer = known.get(key);
        if (answer == null) {
            answer = false;
            for (int p : parts) {
                for (int q : parts) {
                    if (itemOf(p) == item && itemOf(q) == other && partBarred(p, q, ways.get(way))) {
                        answer = true;
                    }
                }
            }
            known.put(key, answer);
        }
        return answer;
    }

    private boolean itemFree(int item, Set<Integer> left, int way) {
        for (int other : left) {
            if (other != item && itemBarred(item, other, way)) {
                return false;
            }
        }
        return true;
    }

    private int wayOf(int item, Set<Integer> left) {
        for (int way = 0; way < ways.size(); way++) {
            if (itemFree(item, left, way)) {
                return way;
            }
        }
        return -1;
    }

    /** Item and direction of each step of taking apart. */
    private List<int[]> takenApart() {
        List<int[]> steps = new ArrayList<>();
        TreeSet<Integer> left = items();
        boolean goesOn = true;
        while (goesOn) {
            goesOn = false;
            for (int item : left) {
                int way = wayOf(item, left);
                if (way >= 0) {
                    steps.add(new int[] {item, way});
                    left.remove(item);
                    goesOn = true;
                    break;
                }
            }
        }
        return steps;
    }

    private boolean someLocked() {
        return takenApart().size() < items().size();
    }

    int run() {
        ran = true;
        known.clear();
        return someLocked() ? 0 : items().size();
    }

    int step(int k, int what) {
        state(ran && !someLocked());
        List<int[]> steps = takenApart();
        index(0 <= k && k < steps.size());
        argument(0 <= what && what <= 2);
        int[] found = steps.get(steps.size() - 1 - k);
        if (what < 2) {
            return found[what];
        }
        int bits = 0;
        for (int p : parts) {
            bits += itemOf(p) == found[0] ? 1 << p : 0;
        }
        return bits;
    }

    int apart(int k) {
        state(ran);
        index(k >= 0);
        List<int[]> steps = takenApart();
        return k < steps.size() ? steps.get(k)[0] : -1;
    }

    int locked(int k) {
        state(ran);
        index(k >= 0);
        Set<Integer> gone = new HashSet<>();
        for (int[] s : takenApart()) {
            gone.add(s[0]);
        }
        List<Integer> stay = new ArrayList<>();
        for (int p : parts) {
            if (!gone.contains(itemOf(p))) {
                stay.add(p);
            }
        }
        return k < stay.size() ? stay.get(k) : -1;
    }

    int stage(int k) {
        state(ran && !someLocked());
        index(k >= 0);
        List<Integer> begins = new ArrayList<>();
        for (int i = 0; i < items().size(); i++) {
            if (i == 0 || step(i, 1) != step(i - 1, 1)) {
                begins.add(i);
            }
        }
        return k < begins.size() ? begins.get(k) : -1;
    }

    int turnings() {
        state(ran);
        if (someLocked()) {
            return -1;
        }
        return items().isEmpty() ? 0 : fewest(items(), -1, new HashMap<>());
    }

    private int fewest(TreeSet<Integer> left, int last, Map<String, Integer> found) {
        if (left.isEmpty()) {
            return 0;
        }
        String key = left + "/" + last;
        if (found.containsKey(key)) {
            return found.get(key);
        }
        int least = 1000;
        for (int item : left) {
            for (int way = 0; way < ways.size(); way++) {
                if (itemFree(item, left, way)) {
                    TreeSet<Integer> rest = new TreeSet<>(left);
                    rest.remove(item);
                    int more = last != -1 && last != way ? 1 : 0;
                    least = Math.min(least, more + fewest(rest, way, found));
                }
            }
        }
        found.put(key, least);
        return least;
    }

    int two(int depth) {
        state(ran);
        argument(0 <= depth && depth <= 2);
        for (int moves = 0; moves <= depth; moves++) {
            if (freedBy(moves, new TreeMap<>())) {
                return moves + 1;
            }
        }
        return 0;
    }

    private boolean freedBy(int moves, TreeMap<Integer, long[]> shifts) {
        if (moves == 0) {
            return someFree(shifts);
        }
        for (int item : items()) {
            for (int way = 0; way < 6; way++) {
                TreeMap<Integer, long[]> next = new TreeMap<>(shifts);
                long[] by = next.getOrDefault(item, new long[3]).clone();
                for (int i = 0; i < 3; i++) {
                    by[i] += ways.get(way)[i];
                }
                next.put(item, by);
                if (liesClear(item, next) && freedBy(moves - 1, next)) {
                    return true;
                }
            }
        }
        return false;
    }

    private boolean liesClear(int item, Map<Integer, long[]> shifts) {
        for (Box a : boxes) {
            for (Box b : boxes) {
                if (itemOf(a.part) == item && itemOf(b.part) != item) {
                    Box c = moved(a, shifts);
                    Box d = moved(b, shifts);
                    if (overlap(c.from, c.size, d.from, d.size)) {
                        return false;
                    }
                }
            }
        }
        return true;
    }

    private boolean someFree(Map<Integer, long[]> shifts) {
        List<Box> now = new ArrayList<>();
        List<Integer> owners = new ArrayList<>();
        for (Box b : boxes) {
            now.add(moved(b, shifts));
            owners.add(itemOf(b.part));
        }
        for (int item : items()) {
            for (long[] way : ways) {
                boolean barred = false;
                for (int i = 0; i < now.size() && !barred; i++) {
                    for (int j = 0; j < now.size() && owners.get(i) == item && !barred; j++) {
                        barred = owners.get(j) != item && boxBarred(now.get(i), now.get(j), way);
                    }
                }
                if (!barred) {
                    return true;
                }
            }
        }
        return false;
    }

    int hands(int n, int k) {
        state(ran);
        index(k >= 0);
        argument(1 <= n && n <= 12);
        TreeSet<Integer> left = items();
        int count = 0;
        for (int round = 0; round <= Math.min(k, 20); round++) {
            List<Integer> going = new ArrayList<>();
            for (int item : left) {
                if (going.size() < n && wayOf(item, left) >= 0) {
                    going.add(item);
                }
            }
            left.removeAll(going);
            count = going.size();
        }
        return count;
    }

    int out(int part) {
        state(ran);
        index(isPart(part));
        int item = itemOf(part);
        Set<TreeSet<Integer>> now = new HashSet<>();
        now.add(items());
        for (int gone = 0; !now.isEmpty(); gone++) {
            Set<TreeSet<Integer>> next = new HashSet<>();
            for (TreeSet<Integer> left : now) {
                if (wayOf(item, left) >= 0) {
                    return gone;
                }
                for (int other : left) {
                    if (other != item && wayOf(other, left) >= 0) {
                        TreeSet<Integer> rest = new TreeSet<>(left);
                        rest.remove(other);
                        next.add(rest);
                    }
                }
            }
            now = next;
        }
        return -1;
    }

    boolean glue(int a, int b, int minutes) {
        index(isPart(a) && isPart(b));
        argument(a != b && 0 <= minutes && minutes <= 1000);
        return glues.size() < 16 && glues.add(new int[] {a, b, minutes});
    }

    boolean keeps() {
        state(ran && !someLocked());
        for (int[] g : glues) {
            int apart = 0;
            for (int i = 0; i < items().size(); i++) {
                apart += step(i, 0) == itemOf(g[0]) ? i : 0;
                apart -= step(i, 0) == itemOf(g[1]) ? i : 0;
            }
            if (Math.abs(apart) > g[2]) {
                return false;
            }
        }
        return true;
    }

    int clamp(int a, int b, long reach) {
        index(isPart(a) && isPart(b));
        argument(reach >= 0);
        for (int axis = 0; axis < 3; axis++) {
            TreeSet<Long> ends = new TreeSet<>();
            Set<Integer> seen = new HashSet<>();
            for (Box box : boxes) {
                if (box.part == a || box.part == b) {
                    ends.add(box.from[axis]);
                    ends.add(box.from[axis] + box.size[axis]);
                    seen.add(box.part);
                }
            }
            if (seen.contains(a) && seen.contains(b) && ends.last() - ends.first() <= reach) {
                return axis;
            }
        }
        return -1;
    }
}
