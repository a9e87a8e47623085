import java.util.ArrayList;
import java.util.List;
import java.util.regex.Matcher;
import java.util.regex.Pattern;

/**
 * The promises told a second time, as plainly as can be: each step is done by
 * itself, and each least is looked for among all ways. Slow, for tests alone.
 */
final class Twin {
    private static final int BAD = -1;
    private static final int NOT = -2;
    private static final int FULL = -3;
    private static final int BIG = -4;
    private static final int STOPPED = -5;
    private static final int VOID = -2000000000;
    private static final Pattern TEXT = Pattern.compile(
        "(?:t [0-9]{1,4} [0-9]{1,4};|u [0-9]{1,4};|s -?[0-9]{1,4};|w [0-9]{1,4} -?[0-9]{1,4};)+");

    /** lane, width, weight, at, least, most, rope, at when tied. */
    private final List<int[]> things = new ArrayList<>();
    private final List<Integer> drums = new ArrayList<>();
    /** thing, gear, way, holds, load, drum, done, gone. */
    private final List<int[]> ropes = new ArrayList<>();
    private final int[] weights = new int[20];
    private final int[][] scenes = new int[10][40];
    private final boolean[] catches = new boolean[1600];
    private int bound = 99999;
    private int shaft;
    private int wear;
    private int[] stopped = {0, -1, -1};
    private int[][] told;
    private List<Integer> works;
    private final StringBuilder tape = new StringBuilder();
    private Kept kept;
    private int time;
    /** how long, end. */
    private final List<int[]> candles = new ArrayList<>();
    /** height, width, paint. */
    private final List<int[]> flats = new ArrayList<>();
    private final List<int[]> wants = new ArrayList<>();
    private int[] given = {};
    private int leastSum;
    private int[] leastWay;

    private record Kept(List<int[]> things, List<int[]> ropes, int[] weights, int shaft, int wear) {
    }

    Twin() {
        for (int[] row : scenes) {
            java.util.Arrays.fill(row, -1);
        }
    }

    private static boolean in(int v, int least, int most) {
        return v >= least && v <= most;
    }

    private static boolean standOnOnePlace(int[] a, int[] b) {
        for (int p = a[3]; p < a[3] + a[1]; p++) {
            if (a[0] == b[0] && in(p, b[3], b[3] + b[1] - 1)) {
                return true;
            }
        }
        return false;
    }

    int thing(int where, int width, int bounds, int weight) {
        if (where < 0 || where > 1599 || !in(width, 1, 60) || !in(weight, 0, 999) || !in(bounds, 0, 9999)) {
            return BAD;
        }
        int[] t = {where / 100, width, weight, where % 100, bounds / 100, bounds % 100, -1, -1};
        if (t[3] < t[4] || t[3] > t[5] || t[5] + t[1] > 100) {
            return BAD;
        }
        for (int[] o : things) {
            if (standOnOnePlace(t, o)) {
                return NOT;
            }
        }
        if (things.size() == 40) {
            return FULL;
        }
        things.add(t);
        kept = null;
        return things.size() - 1;
    }

    int ofThing(int thing, int what) {
        return in(thing, 0, things.size() - 1) && in(what, 0, 7) ? things.get(thing)[what] : -2;
    }

    int on(int place) {
        if (!in(place, 0, 1599)) {
            return BAD;
        }
        int[] spot = {place / 100, 1, 0, place % 100};
        for (int i = 0; i < things.size(); i++) {
            if (standOnOnePlace(spot, things.get(i))) {
                return i;
            }
        }
        return NOT;
    }

    int drum(int size) {
        if (!in(size, 1, 20)) {
            return BAD;
        }
        if (drums.size() == 20) {
            return FULL;
        }
        kept = null;
        drums.add(size);
        return drums.size() - 1;
    }

    int rope(int thing, int how, int holds) {
        boolean led = false;
        for (int gear = 1; gear <= 5; gear++) {
            led |= how == 10 * gear + 1 || how == 10 * gear + 2;
        }
        if (!in(thing, 0, things.size() - 1) || !led || !in(holds, 1, 9999)) {
            return BAD;
        }
        if (ropes.size() == 40) {
            return FULL;
        }
        int gear = how / 10;
        int load = (int) Math.ceil(things.get(thing)[2] / (double) gear);
        ropes.add(new int[] {thing, gear, how % 10 == 1 ? 1 : -1, holds, load, -1, 0, 0});
        kept = null;
        return ropes.size() - 1;
    }

    int ofRope(int rope, int what) {
        return in(rope, 0, ropes.size() - 1) && in(what, 0, 7) ? ropes.get(rope)[what] : VOID;
    }

    int tie(int rope, int drum) {
        if (!in(rope, 0, ropes.size() - 1) || !in(drum, 0, drums.size() - 1)) {
            return BAD;
        }
        int[] r = ropes.get(rope);
        int[] t = things.get(r[0]);
        if (r[5] != -1 || r[7] == 1 || t[6] != -1 || r[3] < r[4]) {
            return NOT;
        }
        r[5] = drum;
        t[6] = rope;
        t[7] = t[3];
        kept = null;
        return r[3] - r[4];
    }

    int untie(int rope) {
        if (!in(rope, 0, ropes.size() - 1) || ropes.get(rope)[5] == -1) {
            return VOID;
        }
        int[] r = ropes.get(rope);
        int done = r[6];
        r[5] = -1;
        r[6] = 0;
        things.get(r[0])[6] = -1;
        things.get(r[0])[7] = -1;
        kept = null;
        return done;
    }

    int weight(int i, int v) {
        if (!in(i, 0, 19) || !in(v, -9999, 9999)) {
            return VOID;
        }
        int was = weights[i];
        weights[i] = v;
        kept = null;
        return was;
    }

    int bound(int v) {
        if (!in(v, 0, 99999)) {
            return BAD;
        }
        int was = bound;
        bound = v;
        return was;
    }

    int pull() {
        int sum = 0;
        for (int[] r : ropes) {
            if (r[5] >= 0) {
                int[] t = things.get(r[0]);
                sum += t[2] * drums.get(r[5]) / r[1] * r[2] + t[2] * (t[3] - t[7]);
            }
        }
        for (int w : weights) {
            sum += w;
        }
        return sum;
    }

    private static int towardZero(int a, int b) {
        int q = Math.abs(a) / b;
        return a < 0 ? -q : q;
    }

    private void moveOne(int direction) {
        for (int[] r : ropes) {
            if (r[5] >= 0) {
                int[] t = things.get(r[0]);
                r[6] += direction * drums.get(r[5]);
                t[3] = t[7] + r[2] * towardZero(r[6], 100 * r[1]);
            }
        }
    }

    private int[] whyNot() {
        for (int i = 0; i < things.size(); i++) {
            int[] t = things.get(i);
            if (t[3] < t[4] || t[3] > t[5]) {
                return new int[] {1, i, -1};
            }
        }
        for (int i = 0; i < things.size(); i++) {
            for (int j = 0; j < things.size(); j++) {
                int[] a = things.get(i);
                int[] b = things.get(j);
                if (i != j && a[0] == b[0] && a[3] < b[3] + b[1] && b[3] < a[3] + a[1]) {
                    return new int[] {2, i, j};
                }
            }
        }
        return Math.abs(pull()) > bound ? new int[] {3, -1, -1} : new int[] {0, -1, -1};
    }

    private int steps(int n) {
        int direction = n < 0 ? -1 : 1;
        int[] why = {0, -1, -1};
        int done = 0;
        while (done < Math.abs(n)) {
            moveOne(direction);
            why = whyNot();
            if (why[0] != 0) {
                moveOne(-direction);
                break;
            }
            done++;
            shaft += direction;
            wear++;
        }
        stopped = why;
        return done;
    }

    int turn(int n) {
        if (!in(n, -9999, 9999)) {
            return BAD;
        }
        int done = steps(n);
        if (done > 0) {
            kept = null;
        }
        return done;
    }

    int stopped(int what) {
        return in(what, 0, 2) ? stopped[what] : BAD;
    }

    int free(int n) {
        if (!in(n, -9999, 9999)) {
            return BAD;
        }
        Kept now = copy();
        int[] why = stopped;
        int done = steps(n);
        putBack(now);
        stopped = why;
        return done;
    }

    int snap(int rope) {
        if (!in(rope, 0, ropes.size() - 1)) {
            return BAD;
        }
        int[] r = ropes.get(rope);
        if (r[5] == -1) {
            return NOT;
        }
        int[] t = things.get(r[0]);
        int goal = r[6] > 0 ? t[7] : t[3];
        r[5] = -1;
        r[6] = 0;
        r[7] = 1;
        t[6] = -1;
        t[7] = -1;
        kept = null;
        int fell = 0;
        while (t[3] != goal && !catches[100 * t[0] + t[3]]) {
            t[3] -= r[2];
            if (whyNot()[0] == 2) {
                t[3] += r[2];
                break;
            }
            fell++;
        }
        return fell;
    }

    int hold(int place) {
        if (!in(place, 0, 1599) || catches[place]) {
            return BAD;
        }
        int there = 0;
        for (int p = 0; p < 100; p++) {
            there += catches[place / 100 * 100 + p] ? 1 : 0;
        }
        if (there == 5) {
            return FULL;
        }
        catches[place] = true;
        return there + 1;
    }

    int scene(int scene, int thing, int at) {
        if (!in(scene, 0, 9) || !in(thing, 0, things.size() - 1)) {
            return -2;
        }
        int[] t = things.get(thing);
        if (at != -1 && !in(at, t[4], t[5])) {
            return -2;
        }
        int was = scenes[scene][thing];
        scenes[scene][thing] = at;
        return was;
    }

    int change(int scene, int n) {
        if (!in(scene, 0, 9) || !in(n, -9999, 9999) || n == 0) {
            return BAD;
        }
        told = new int[40][];
        works = null;
        int moved = 0;
        for (int i = 0; i < things.size(); i++) {
            int goal = scenes[scene][i];
            if (goal != -1 && goal != things.get(i)[3]) {
                told[i] = tieFor(i, goal, n);
                if (told[i][0] == -2) {
                    return NOT;
                }
                moved++;
            }
        }
        works = new ArrayList<>();
        for (int i = 0; i < things.size(); i++) {
            addWork(things.get(i), told[i]);
        }
        return moved;
    }

    private int[] tieFor(int thing, int goal, int n) {
        for (int k = 0; k < ropes.size() * drums.size(); k++) {
            int[] r = ropes.get(k / drums.size());
            int size = drums.get(k % drums.size());
            int at = things.get(thing)[3] + r[2] * towardZero(size * n, 100 * r[1]);
            if (r[0] == thing && r[7] == 0 && r[3] - r[4] >= 0 && at == goal) {
                return new int[] {k / drums.size(), k % drums.size()};
            }
        }
        return new int[] {-2, -2};
    }

    private void addWork(int[] thing, int[] tie) {
        int minutes = 0;
        boolean stays = tie != null && thing[6] == tie[0] && ropes.get(tie[0])[5] == tie[1] && ropes.get(tie[0])[6] == 0;
        if (!stays) {
            minutes += thing[6] >= 0 ? 2 : 0;
            minutes += tie != null ? 3 : 0;
        }
        if (minutes > 0) {
            works.add(minutes);
        }
    }

    int told(int thing, int what) {
        if (told == null || !in(thing, 0, things.size() - 1) || !in(what, 0, 1)) {
            return BAD;
        }
        return told[thing] == null ? -1 : told[thing][what];
    }

    int work(int what) {
        if (told == null || !in(what, 0, 1)) {
            return BAD;
        }
        if (works == null) {
            return NOT;
        }
        return what == 1 ? works.size() : works.stream().mapToInt(w -> w).sum();
    }

    int men(int t) {
        if (told == null || !in(t, 1, 99)) {
            return BAD;
        }
        if (works == null || works.stream().anyMatch(w -> w > t)) {
            return NOT;
        }
        if (works.size() > 12) {
            return BIG;
        }
        int men = 0;
        while (!canShare(works.size() - 1, new int[men], t)) {
            men++;
        }
        return men;
    }

    private boolean canShare(int work, int[] loads, int t) {
        if (work < 0) {
            return true;
        }
        for (int m = 0; m < loads.length; m++) {
            if (loads[m] + works.get(work) <= t) {
                loads[m] += works.get(work);
                boolean can = canShare(work - 1, loads, t);
                loads[m] -= works.get(work);
                if (can) {
                    return true;
                }
                if (loads[m] == 0) {
                    return false;
                }
            }
        }
        return false;
    }

    int feed(int n, int v) {
        if (!in(n, 1, 4)) {
            return BAD;
        }
        if (tape.length() + n > 120) {
            return FULL;
        }
        for (int i = 0; i < n; i++) {
            tape.append((char) (v >>> 8 * i & 0xff));
        }
        return tape.length();
    }

    private static boolean goesOn(String start) {
        Matcher m = TEXT.matcher(start);
        return m.matches() || m.hitEnd();
    }

    int play() {
        String text = tape.toString();
        tape.setLength(0);
        if (!TEXT.matcher(text).matches()) {
            int fault = 0;
            while (fault < text.length() && goesOn(text.substring(0, fault + 1))) {
                fault++;
            }
            return -100 - fault;
        }
        Kept ahead = copy();
        String[] lines = text.split(";");
        int answer = lines.length;
        for (int i = 0; i < lines.length && answer == lines.length; i++) {
            String[] words = lines[i].split(" ");
            int a = Integer.parseInt(words[1]);
            int b = words.length > 2 ? Integer.parseInt(words[2]) : 0;
            boolean refused = words[0].equals("t") && tie(a, b) < 0
                || words[0].equals("u") && untie(a) == VOID
                || words[0].equals("w") && weight(a, b) == VOID;
            if (refused) {
                answer = -1000 - i;
            } else if (words[0].equals("s") && steps(a) < Math.abs(a)) {
                answer = STOPPED;
            }
        }
        kept = ahead;
        return answer;
    }

    private static List<int[]> copyRows(List<int[]> rows) {
        List<int[]> copy = new ArrayList<>();
        for (int[] row : rows) {
            copy.add(row.clone());
        }
        return copy;
    }

    private Kept copy() {
        return new Kept(copyRows(things), copyRows(ropes), weights.clone(), shaft, wear);
    }

    private void putBack(Kept k) {
        things.clear();
        things.addAll(copyRows(k.things()));
        ropes.clear();
        ropes.addAll(copyRows(k.ropes()));
        System.arraycopy(k.weights(), 0, weights, 0, 20);
        shaft = k.shaft();
        wear = k.wear();
    }

    int back() {
        if (kept == null) {
            return NOT;
        }
        putBack(kept);
        kept = null;
        return 1;
    }

    int candle(int minutes) {
        if (!in(minutes, 1, 300)) {
            return BAD;
        }
        if (candles.size() == 60) {
            return FULL;
        }
        candles.add(new int[] {minutes, minutes});
        return candles.size() - 1;
    }

    int minutes(int n) {
        if (!in(n, 1, 1000) || time + n > 9999) {
            return BAD;
        }
        for (int i = 0; i < n; i++) {
            time++;
            for (int[] c : candles) {
                c[1] = Math.max(0, c[1] - 1);
            }
        }
        return time;
    }

    int trim(int k) {
        if (!in(k, 0, 300)) {
            return BAD;
        }
        int taken = 0;
        for (int[] c : candles) {
            if (c[1] > 0 && c[1] <= k) {
                c[1] = c[0];
                taken++;
            }
        }
        return taken;
    }

    int light(int what) {
        int dark = (int) candles.stream().filter(c -> c[1] == 0).count();
        switch (what) {
            case 0: return dark;
            case 1: return candles.size() - dark;
            case 2: return candles.stream().mapToInt(c -> c[1]).filter(left -> left > 0).min().orElse(-1);
            default: return BAD;
        }
    }

    private static int addPanel(List<int[]> list, int most, int size, int paint) {
        if (!in(size, 0, 9999) || size / 100 == 0 || size % 100 == 0 || !in(paint, 0, 9)) {
            return BAD;
        }
        if (list.size() == most) {
            return FULL;
        }
        list.add(new int[] {size / 100, size % 100, paint});
        return list.size();
    }

    int flat(int size, int paint) {
        int many = addPanel(flats, 12, size, paint);
        return many < 0 ? many : many - 1;
    }

    int want(int size, int paint) {
        return addPanel(wants, 6, size, paint);
    }

    int paint() {
        leastSum = Integer.MAX_VALUE;
        leastWay = null;
        if (!wants.isEmpty()) {
            tryFlats(new int[wants.size()], 0, 0);
        }
        wants.clear();
        if (leastWay == null) {
            return NOT;
        }
        given = leastWay;
        return leastSum;
    }

    private void tryFlats(int[] way, int want, int sum) {
        if (sum >= leastSum) {
            return;
        }
        if (want == way.length) {
            leastSum = sum;
            leastWay = way.clone();
            return;
        }
        int[] w = wants.get(want);
        for (int f = 0; f < flats.size(); f++) {
            int[] p = flats.get(f);
            boolean taken = false;
            for (int i = 0; i < want; i++) {
                taken |= way[i] == f;
            }
            if (!taken && p[0] >= w[0] && p[1] >= w[1]) {
                way[want] = f;
                int cut = p[0] * p[1] - w[0] * w[1];
                tryFlats(way, want + 1, sum + cut + (p[2] == w[2] ? 0 : p[0] * p[1]));
            }
        }
    }

    int given(int i) {
        return in(i, 0, given.length - 1) ? given[i] : BAD;
    }

    int count(int what) {
        int tied = (int) ropes.stream().filter(r -> r[5] >= 0).count();
        int[] counts = {things.size(), drums.size(), ropes.size(), tied, shaft, time, candles.size(), flats.size(),
            tape.length(), wear};
        return in(what, 0, 9) ? counts[what] : VOID;
    }
}
