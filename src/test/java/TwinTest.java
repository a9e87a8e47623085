import java.util.Random;

/** Random runs of calls, each answer beside that of the Twin. The seeds are fixed. */
public final class TwinTest {
    private static final int RUNS = 400;
    /** What the object is used for besides, to look at its end, keeps below 512 calls in all. */
    private static final int CALLS = 390;
    private static final int[] EDGES = {Integer.MIN_VALUE, Integer.MIN_VALUE + 1, -10000, -9999, -2, -1, 0, 1, 2, 9, 10,
        11, 12, 20, 40, 60, 61, 99, 100, 101, 120, 300, 301, 999, 1000, 1600, 9999, 10000, 99999, 100000,
        Integer.MAX_VALUE - 1, Integer.MAX_VALUE};
    /** How often each call comes, by the number that answer() has for it. */
    private static final int[][] MIXES = {
        {6, 1, 1, 4, 8, 1, 12, 3, 3, 2, 3, 14, 3, 4, 4, 2, 6, 6, 3, 2, 4, 0, 12, 4, 1, 1, 1, 1, 1, 1, 1, 1, 1},
        {10, 2, 2, 2, 10, 2, 20, 2, 1, 1, 2, 30, 6, 10, 6, 3, 0, 0, 0, 0, 0, 0, 4, 2, 0, 0, 0, 0, 0, 0, 0, 0, 2},
        {8, 0, 0, 4, 12, 0, 8, 3, 0, 0, 0, 4, 0, 0, 2, 0, 20, 20, 8, 4, 10, 0, 2, 1, 0, 0, 0, 0, 0, 0, 0, 0, 1},
        {0, 0, 0, 0, 0, 0, 0, 0, 0, 0, 0, 0, 0, 0, 0, 0, 0, 0, 0, 0, 0, 4, 4, 2, 6, 4, 6, 6, 8, 24, 6, 6, 4},
        {6, 1, 1, 2, 8, 1, 6, 2, 2, 1, 2, 4, 2, 1, 1, 1, 1, 1, 0, 0, 0, 6, 40, 10, 0, 0, 0, 0, 0, 0, 0, 0, 4}};

    private final Random random;
    private final StageMachine x = new StageMachine();
    private final Twin twin = new Twin();
    private final StringBuilder run = new StringBuilder();
    private final boolean wild;
    private final int[] mix;
    private int calls;

    private TwinTest(int seed) {
        random = new Random(seed);
        wild = seed % 7 == 6;
        mix = MIXES[seed % MIXES.length];
    }

    public static void main(String[] args) {
        for (int seed = 0; seed < RUNS; seed++) {
            TwinTest test = new TwinTest(seed);
            if (!test.goes()) {
                System.out.println("TwinTest: seed " + seed + "\n" + test.run);
                System.exit(1);
            }
        }
        System.out.println("TwinTest: " + RUNS + " runs of " + CALLS + " calls as the Twin's");
    }

    private boolean goes() {
        if (mix == MIXES[1] || mix == MIXES[2]) {
            if (!opens()) {
                return false;
            }
        }
        while (calls < CALLS) {
            if (!one(pick())) {
                return false;
            }
        }
        return endsAlike();
    }

    /** A stage with ropes to both sides, so that changes are found and turns go far. */
    private boolean opens() {
        boolean good = true;
        for (int size = 20; size >= 5; size /= 2) {
            good &= same("drum " + size, x.drum(size), twin.drum(size));
        }
        int things = 4 + random.nextInt(16);
        for (int i = 0; i < things; i++) {
            good &= thing();
        }
        for (int i = 0; i < twin.count(0) && twin.count(2) < 38; i++) {
            int how = random.nextInt(4) == 0 ? 21 : 11;
            good &= same("rope " + i + " " + how, x.rope(i, how, 999), twin.rope(i, how, 999));
            good &= same("rope " + i + " 12", x.rope(i, 12, 999), twin.rope(i, 12, 999));
        }
        return good;
    }

    private boolean endsAlike() {
        boolean good = true;
        for (int i = 0; i < twin.count(0); i++) {
            good &= same("ofThing " + i + " 3", x.ofThing(i, 3), twin.ofThing(i, 3));
        }
        for (int i = 0; i < twin.count(2); i++) {
            good &= same("ofRope " + i + " 6", x.ofRope(i, 6), twin.ofRope(i, 6));
        }
        return good;
    }

    private int pick() {
        int sum = 0;
        for (int m : mix) {
            sum += m;
        }
        int left = random.nextInt(sum);
        int call = 0;
        while (left >= mix[call]) {
            left -= mix[call];
            call++;
        }
        return call;
    }

    private boolean same(String call, int got, int want) {
        calls++;
        run.append(call).append(" -> ").append(got);
        run.append(got == want ? "\n" : ", the Twin: " + want + "\n");
        return got == want;
    }

    /** A number of least .. most, or now and then one from the edges. */
    private int number(int least, int most) {
        if (wild && random.nextInt(4) == 0) {
            return EDGES[random.nextInt(EDGES.length)];
        }
        if (random.nextInt(40) == 0) {
            return random.nextBoolean() ? least - 1 : most + 1;
        }
        return least + random.nextInt(most - least + 1);
    }

    private int thingNumber() {
        return number(0, Math.max(0, twin.count(0) - 1));
    }

    private int ropeNumber() {
        return number(0, Math.max(0, twin.count(2) - 1));
    }

    private int drumNumber() {
        return number(0, Math.max(0, twin.count(1) - 1));
    }

    private int steps() {
        int most = new int[] {20, 200, 2000, 9999}[random.nextInt(4)];
        return number(-most, most);
    }

    private int panel() {
        return 100 * number(1, random.nextInt(8) == 0 ? 99 : 6) + number(1, 6);
    }

    private boolean one(int call) {
        if (call < 11) {
            return whatThereIs(call);
        }
        if (call < 16) {
            return turning(call);
        }
        if (call < 21) {
            return scenes(call);
        }
        if (call < 24) {
            return cues(call);
        }
        return rest(call);
    }

    private boolean whatThereIs(int call) {
        int a = thingNumber();
        int r = ropeNumber();
        switch (call) {
            case 0: return thing();
            case 1: {
                int what = number(0, 7);
                return same("ofThing " + a + " " + what, x.ofThing(a, what), twin.ofThing(a, what));
            }
            case 2: {
                int place = 100 * number(0, 15) + number(0, 99);
                return same("on " + place, x.on(place), twin.on(place));
            }
            case 3: {
                int size = random.nextBoolean() ? 10 : number(1, 20);
                return same("drum " + size, x.drum(size), twin.drum(size));
            }
            case 4: {
                int how = 10 * number(1, random.nextBoolean() ? 1 : 5) + number(1, 2);
                int holds = random.nextInt(4) == 0 ? number(1, 300) : number(1, 9999);
                return same("rope " + a + " " + how + " " + holds, x.rope(a, how, holds), twin.rope(a, how, holds));
            }
            case 5: {
                int what = number(0, 7);
                return same("ofRope " + r + " " + what, x.ofRope(r, what), twin.ofRope(r, what));
            }
            case 6: {
                int drum = drumNumber();
                return same("tie " + r + " " + drum, x.tie(r, drum), twin.tie(r, drum));
            }
            case 7: return same("untie " + r, x.untie(r), twin.untie(r));
            case 8: {
                int i = number(0, 19);
                int v = number(-9999, 9999);
                return same("weight " + i + " " + v, x.weight(i, v), twin.weight(i, v));
            }
            case 9: {
                int v = random.nextInt(3) == 0 ? number(0, 30000) : number(60000, 99999);
                return same("bound " + v, x.bound(v), twin.bound(v));
            }
            default: return same("pull", x.pull(), twin.pull());
        }
    }

    private boolean thing() {
        int where = 100 * number(0, random.nextBoolean() ? 2 : 15) + number(0, 99);
        int width = number(1, random.nextInt(5) == 0 ? 60 : 12);
        int at = Math.floorMod(where, 100);
        int least = random.nextInt(at + 1);
        int most = Math.max(at, Math.min(99, 100 - width - random.nextInt(10)));
        int bounds = random.nextInt(20) == 0 ? number(0, 9999) : 100 * least + most;
        int weight = random.nextInt(6) == 0 ? number(0, 999) : number(0, 99);
        return same("thing " + where + " " + width + " " + bounds + " " + weight,
            x.thing(where, width, bounds, weight), twin.thing(where, width, bounds, weight));
    }

    private boolean turning(int call) {
        switch (call) {
            case 11: {
                int n = steps();
                return same("turn " + n, x.turn(n), twin.turn(n)) && stops();
            }
            case 12: {
                int what = number(0, 2);
                return same("stopped " + what, x.stopped(what), twin.stopped(what));
            }
            case 13: {
                int n = steps();
                return same("free " + n, x.free(n), twin.free(n));
            }
            case 14: {
                int r = ropeNumber();
                return same("snap " + r, x.snap(r), twin.snap(r));
            }
            default: {
                int place = 100 * number(0, random.nextBoolean() ? 2 : 15) + number(0, 99);
                return same("hold " + place, x.hold(place), twin.hold(place));
            }
        }
    }

    private boolean stops() {
        boolean good = true;
        for (int what = 0; what < 3; what++) {
            good &= same("stopped " + what, x.stopped(what), twin.stopped(what));
        }
        return good;
    }

    private boolean scenes(int call) {
        int scene = number(0, random.nextBoolean() ? 1 : 9);
        switch (call) {
            case 16: {
                int t = thingNumber();
                int near = twin.ofThing(t, 3) + (random.nextInt(7) - 3) * 5;
                int at = random.nextInt(6) == 0 ? -1 : random.nextInt(6) == 0 ? number(0, 99) : near;
                return same("scene " + scene + " " + t + " " + at, x.scene(scene, t, at), twin.scene(scene, t, at));
            }
            case 17: {
                int n = random.nextInt(5) == 0 ? steps() : random.nextBoolean() ? 100 : -100;
                return same("change " + scene + " " + n, x.change(scene, n), twin.change(scene, n)) && tolds();
            }
            case 18: {
                int t = thingNumber();
                int what = number(0, 1);
                return same("told " + t + " " + what, x.told(t, what), twin.told(t, what));
            }
            case 19: {
                int what = number(0, 1);
                return same("work " + what, x.work(what), twin.work(what));
            }
            default: {
                int t = number(1, random.nextBoolean() ? 12 : 99);
                return same("men " + t, x.men(t), twin.men(t));
            }
        }
    }

    private boolean tolds() {
        boolean good = same("work 0", x.work(0), twin.work(0));
        good &= same("work 1", x.work(1), twin.work(1));
        int t = number(2, 15);
        good &= same("men " + t, x.men(t), twin.men(t));
        int thing = thingNumber();
        good &= same("told " + thing + " 0", x.told(thing, 0), twin.told(thing, 0));
        return good & same("told " + thing + " 1", x.told(thing, 1), twin.told(thing, 1));
    }

    private boolean cues(int call) {
        switch (call) {
            case 21: {
                int n = number(1, 4);
                int v = random.nextInt();
                return same("feed " + n + " " + v, x.feed(n, v), twin.feed(n, v));
            }
            case 22: return cue();
            default: return same("back", x.back(), twin.back());
        }
    }

    private boolean cue() {
        StringBuilder text = new StringBuilder();
        int lines = random.nextInt(8);
        for (int i = 0; i < lines; i++) {
            text.append(line());
        }
        if (random.nextInt(3) == 0 && text.length() > 0) {
            spoil(text);
        }
        boolean good = true;
        for (int i = 0; i < text.length(); i += 4) {
            int n = Math.min(4, text.length() - i);
            int v = random.nextInt() << 8 * (n - 1);
            for (int k = 0; k < n; k++) {
                v = v & ~(255 << 8 * k) | text.charAt(i + k) << 8 * k;
            }
            good &= same("feed " + n + " " + v, x.feed(n, v), twin.feed(n, v));
        }
        good &= same("play " + text, x.play(), twin.play());
        return good && stops();
    }

    private String line() {
        int small = Math.floorMod(drumNumber(), 10000);
        int n = Math.max(-9999, Math.min(9999, steps()));
        switch (random.nextInt(4)) {
            case 0: return "t " + Math.floorMod(ropeNumber(), 10000) + " " + small + ";";
            case 1: return "u " + Math.floorMod(ropeNumber(), 10000) + ";";
            case 2: return "s " + n + ";";
            default: return "w " + Math.floorMod(number(0, 19), 10000) + " " + n + ";";
        }
    }

    private void spoil(StringBuilder text) {
        int at = random.nextInt(text.length());
        String signs = "tusw 0123456789-;;;   x";
        switch (random.nextInt(4)) {
            case 0: text.setLength(at); break;
            case 1: text.deleteCharAt(at); break;
            case 2: text.insert(at, signs.charAt(random.nextInt(signs.length()))); break;
            default: text.setCharAt(at, signs.charAt(random.nextInt(signs.length())));
        }
    }

    private boolean rest(int call) {
        switch (call) {
            case 24: {
                int n = number(1, 300);
                return same("candle " + n, x.candle(n), twin.candle(n));
            }
            case 25: {
                int n = number(1, random.nextInt(9) == 0 ? 1000 : 60);
                return same("minutes " + n, x.minutes(n), twin.minutes(n));
            }
            case 26: {
                int k = number(0, 300);
                return same("trim " + k, x.trim(k), twin.trim(k));
            }
            case 27: {
                int what = number(0, 2);
                return same("light " + what, x.light(what), twin.light(what));
            }
            case 28: {
                int size = panel();
                int paint = number(0, random.nextBoolean() ? 1 : 9);
                return same("flat " + size + " " + paint, x.flat(size, paint), twin.flat(size, paint));
            }
            case 29: {
                int size = panel();
                int paint = number(0, random.nextBoolean() ? 1 : 9);
                return same("want " + size + " " + paint, x.want(size, paint), twin.want(size, paint));
            }
            case 30: return same("paint", x.paint(), twin.paint());
            case 31: {
                int i = number(0, 5);
                return same("given " + i, x.given(i), twin.given(i));
            }
            default: {
                int what = number(0, 9);
                return same("count " + what, x.count(what), twin.count(what));
            }
        }
    }
}
