import java.util.Arrays;

/**
 * A court stage whose scenes change by one shaft. The numbered promises of the
 * document say what each call answers; the words in capitals are the document's.
 */
public final class StageMachine {
    public static final int BAD = -1, NOT = -2, FULL = -3, BIG = -4, STOPPED = -5, VOID = -2000000000;

    private static final int PLACES = 100;
    private static final int LANES = 16;
    private static final int THINGS = 40;
    private static final int DRUMS = 20;
    private static final int ROPES = 40;
    private static final int COUNTERWEIGHTS = 20;
    private static final int CATCHES = 5;
    private static final int SCENES = 10;
    private static final int MOST_STEPS = 9999;
    private static final int MOST_WEIGHT = 9999;
    private static final int MOST_BOUND = 99999;
    private static final int MOST_HOLDS = 9999;

    private static final int BEYOND = 1;
    private static final int MEETS = 2;
    private static final int UNEVEN = 3;

    private static final int TAPE_BYTES = 120;
    private static final int SHORTEST_LINE = 4;
    private static final int MOST_DIGITS = 4;

    private static final int MOST_TIME = 9999;
    private static final int CANDLES = 60;
    private static final int LONGEST_BURNING = 300;
    private static final int FLATS = 12;
    private static final int WANTS = 6;
    private static final int PAINTS = 10;

    private final Stage stage;
    private final Turning turning;
    private final Change latestChange;
    private final Tape tape = new Tape();
    private final Candles candles = new Candles();
    private final Stock stock = new Stock();
    private boolean cueCanGoBack;

    public StageMachine() {
        Stage empty = new Stage();
        stage = empty;
        turning = new Turning(empty);
        latestChange = new Change(empty);
    }

    // ---- what there is

    public int thing(int where, int width, int bounds, int weight) {
        int number = stage.addThing(where, width, bounds, weight);
        return deed(number, number >= 0);
    }

    public int ofThing(int thing, int what) {
        Thing of = stage.thingNumbered(thing);
        return of == null ? NOT : of.tell(what);
    }

    public int on(int place) {
        return stage.standingOn(place);
    }

    public int drum(int size) {
        int number = stage.addDrum(size);
        return deed(number, number >= 0);
    }

    public int rope(int thing, int how, int holds) {
        int number = stage.addRope(thing, how, holds);
        return deed(number, number >= 0);
    }

    public int ofRope(int rope, int what) {
        Rope of = stage.ropeNumbered(rope);
        return of == null ? VOID : of.tell(what);
    }

    public int tie(int rope, int drum) {
        int spare = stage.tieRope(rope, drum);
        return deed(spare, spare >= 0);
    }

    public int untie(int rope) {
        int done = stage.untieRope(rope);
        return deed(done, done != VOID);
    }

    public int weight(int i, int v) {
        int before = stage.setWeight(i, v);
        return deed(before, before != VOID);
    }

    public int bound(int v) {
        return stage.setBound(v);
    }

    public int pull() {
        return stage.pullNow();
    }

    // ---- turning

    public int turn(int n) {
        if (!isTurn(n)) {
            return BAD;
        }
        int steps = turning.turnBy(n);
        return deed(steps, steps > 0);
    }

    public int stopped(int what) {
        return turning.latest.tell(what);
    }

    public int free(int n) {
        return isTurn(n) ? turning.lookAhead(n) : BAD;
    }

    public int snap(int rope) {
        int fallen = stage.breakRope(rope);
        return deed(fallen, fallen >= 0);
    }

    public int hold(int place) {
        return stage.addCatch(place);
    }

    // ---- scenes

    public int scene(int scene, int thing, int at) {
        Thing of = stage.thingNumbered(thing);
        return of == null ? NOT : of.tellScene(scene, at);
    }

    public int change(int scene, int n) {
        return latestChange.plan(scene, n);
    }

    public int told(int thing, int what) {
        return latestChange.tieOf(thing, what);
    }

    public int work(int what) {
        return latestChange.workFor(what);
    }

    public int men(int t) {
        return latestChange.leastMen(t);
    }

    // ---- cues

    public int feed(int n, int v) {
        return tape.take(n, v);
    }

    public int play() {
        int fault = tape.readLines();
        tape.length = 0;
        if (fault >= 0) {
            return -100 - fault;
        }
        stage.keep();
        cueCanGoBack = true;
        for (int line = 0; line < tape.lineCount; line++) {
            int answer = playLine(line);
            if (answer != 0) {
                return answer == STOPPED ? STOPPED : -1000 - line;
            }
        }
        return tape.lineCount;
    }

    public int back() {
        if (!cueCanGoBack) {
            return NOT;
        }
        cueCanGoBack = false;
        stage.restore();
        return 1;
    }

    // ---- candles, stock

    public int candle(int minutes) {
        return candles.add(minutes);
    }

    public int minutes(int n) {
        return candles.pass(n);
    }

    public int trim(int k) {
        return candles.renew(k);
    }

    public int light(int what) {
        return candles.tell(what);
    }

    public int flat(int size, int paint) {
        return stock.addFlat(size, paint);
    }

    public int want(int size, int paint) {
        return stock.addWant(size, paint);
    }

    public int paint() {
        return stock.leastPainting();
    }

    public int given(int i) {
        return stock.givenTo(i);
    }

    public int count(int what) {
        switch (what) {
            case 0: return stage.thingCount;
            case 1: return stage.drumCount;
            case 2: return stage.ropeCount;
            case 3: return stage.tiedCount();
            case 4: return stage.shaft;
            case 5: return candles.time;
            case 6: return candles.number;
            case 7: return stock.flatCount;
            case 8: return tape.length;
            case 9: return stage.wear;
            default: return VOID;
        }
    }

    // ---- what several calls share

    /** A deed that was not refused takes away the chance to take a CUE BACK. */
    private int deed(int answer, boolean wasDone) {
        if (wasDone) {
            cueCanGoBack = false;
        }
        return answer;
    }

    /** 0 if the LINE was done, NOT if it was refused, STOPPED if its turn was. */
    private int playLine(int line) {
        int first = tape.firsts[line];
        int second = tape.seconds[line];
        switch (tape.letters[line]) {
            case 't': return stage.tieRope(first, second) >= 0 ? 0 : NOT;
            case 'u': return stage.untieRope(first) != VOID ? 0 : NOT;
            case 'w': return stage.setWeight(first, second) != VOID ? 0 : NOT;
            default: return turning.turnBy(first) == Math.abs(first) ? 0 : STOPPED;
        }
    }

    private static boolean isTurn(int n) {
        return isWithin(n, -MOST_STEPS, MOST_STEPS);
    }

    private static boolean isWithin(int value, int least, int most) {
        return least <= value && value <= most;
    }

    /** The rest away, toward 0; all divisors that are no constants are looked at here and below. */
    private static int quotient(int dividend, int divisor) {
        return divisor == 0 ? 0 : dividend / divisor;
    }

    private static int quotientUp(int dividend, int divisor) {
        return divisor == 0 ? 0 : (dividend + divisor - 1) / divisor;
    }

    private static boolean overlap(int at, int width, int otherAt, int otherWidth) {
        return at < otherAt + otherWidth && otherAt < at + width;
    }

    private static final class Thing {
        final int number;
        final int lane;
        final int width;
        final int weight;
        final int least;
        final int most;
        final int[] sceneAt = new int[SCENES];
        int at;
        /** Where it would stand behind the step that is looked at. */
        int trialAt;
        Rope tied;
        int keptAt;
        Rope keptTied;

        Thing(int number, int lane, int at, int width, int least, int most, int weight) {
            this.number = number;
            this.lane = lane;
            this.at = at;
            this.width = width;
            this.least = least;
            this.most = most;
            this.weight = weight;
            Arrays.fill(sceneAt, -1);
        }

        /** BAD is -2 here, as -1 is an answer of its own. */
        int tell(int what) {
            switch (what) {
                case 0: return lane;
                case 1: return width;
                case 2: return weight;
                case 3: return at;
                case 4: return least;
                case 5: return most;
                case 6: return tied == null ? -1 : tied.number;
                case 7: return tied == null ? -1 : tied.start;
                default: return NOT;
            }
        }

        /** BAD is -2 here, as -1 is an answer of its own. */
        int tellScene(int scene, int newAt) {
            boolean fits = newAt == -1 || isWithin(newAt, least, most);
            if (!isWithin(scene, 0, SCENES - 1) || !fits) {
                return NOT;
            }
            int before = sceneAt[scene];
            sceneAt[scene] = newAt;
            return before;
        }

        boolean covers(int place) {
            return at <= place && place < at + width;
        }

        boolean wouldMeet(Thing other) {
            return lane == other.lane && overlap(trialAt, width, other.trialAt, other.width);
        }
    }

    private static final class Drum {
        final int number;
        final int size;

        Drum(int number, int size) {
            this.number = number;
            this.size = size;
        }
    }

    private static final class Rope {
        final int number;
        final Thing thing;
        final int way;
        final int gear;
        final int holds;
        /** null: it is not TIED. */
        Drum drum;
        /** AT of its THING when it was TIED. */
        int start;
        int done;
        boolean gone;
        Drum keptDrum;
        int keptStart;
        int keptDone;

        Rope(int number, Thing thing, int way, int gear, int holds) {
            this.number = number;
            this.thing = thing;
            this.way = way;
            this.gear = gear;
            this.holds = holds;
        }

        int tell(int what) {
            switch (what) {
                case 0: return thing.number;
                case 1: return gear;
                case 2: return way;
                case 3: return holds;
                case 4: return load();
                case 5: return drum == null ? -1 : drum.number;
                case 6: return drum == null ? 0 : done;
                case 7: return gone ? 1 : 0;
                default: return VOID;
            }
        }

        int load() {
            return quotientUp(thing.weight, gear);
        }

        int spare() {
            return holds - load();
        }

        /** Where its THING is brought from a place when so many hundredths are taken in. */
        int placeFrom(int from, int hundredths) {
            return from + way * quotient(hundredths, PLACES * gear);
        }

        int doneAfter(int steps) {
            return drum == null ? done : done + drum.size * steps;
        }

        int pullAt(int place) {
            if (drum == null) {
                return 0;
            }
            return way * quotient(thing.weight * drum.size, gear) + thing.weight * (place - start);
        }

        /**
         * How many steps more, behind so many that way, till its THING goes to
         * another place. Turning back is mirrored, so that DONE always grows here.
         */
        int stepsToNextPlace(int direction, int steps) {
            if (drum == null) {
                return MOST_STEPS;
            }
            int unit = PLACES * gear;
            int grown = direction * done + drum.size * steps;
            int places = quotient(grown, unit);
            int goal = places >= 0 ? (places + 1) * unit : places * unit + 1;
            return quotientUp(goal - grown, drum.size);
        }

        void advance(int steps) {
            if (drum != null) {
                done = doneAfter(steps);
                thing.at = placeFrom(start, done);
            }
        }

        void bind(Drum to) {
            drum = to;
            start = thing.at;
            done = 0;
            thing.tied = this;
        }

        void loosen() {
            drum = null;
            done = 0;
            thing.tied = null;
        }
    }

    /** THINGS, DRUMS, ROPES and THE SHAFT: what a CUE works on. */
    private static final class Stage {
        final Thing[] things = new Thing[THINGS];
        final Drum[] drums = new Drum[DRUMS];
        final Rope[] ropes = new Rope[ROPES];
        final int[] weights = new int[COUNTERWEIGHTS];
        final int[] keptWeights = new int[COUNTERWEIGHTS];
        final int[] catches = new int[LANES * CATCHES];
        final int[] catchCounts = new int[LANES];
        int thingCount;
        int drumCount;
        int ropeCount;
        int bound = MOST_BOUND;
        int shaft;
        int wear;
        int keptShaft;
        int keptWear;

        Thing thingNumbered(int number) {
            return isWithin(number, 0, thingCount - 1) ? things[number] : null;
        }

        Drum drumNumbered(int number) {
            return isWithin(number, 0, drumCount - 1) ? drums[number] : null;
        }

        Rope ropeNumbered(int number) {
            return isWithin(number, 0, ropeCount - 1) ? ropes[number] : null;
        }

        int addThing(int where, int width, int bounds, int weight) {
            int lane = where / PLACES;
            int at = where % PLACES;
            int least = bounds / PLACES;
            int most = bounds % PLACES;
            boolean sized = isWithin(width, 1, 60) && isWithin(weight, 0, 999);
            boolean bounded = isWithin(at, least, most) && bounds >= 0 && most + width <= PLACES;
            if (!isStagePlace(where) || !sized || !bounded) {
                return BAD;
            }
            if (!isClear(null, lane, at, width)) {
                return NOT;
            }
            if (thingCount >= THINGS) {
                return FULL;
            }
            things[thingCount] = new Thing(thingCount, lane, at, width, least, most, weight);
            return thingCount++;
        }

        int addDrum(int size) {
            if (!isWithin(size, 1, 20)) {
                return BAD;
            }
            if (drumCount >= DRUMS) {
                return FULL;
            }
            drums[drumCount] = new Drum(drumCount, size);
            return drumCount++;
        }

        int addRope(int thingNumber, int how, int holds) {
            Thing thing = thingNumbered(thingNumber);
            int gear = how / 10;
            int side = how % 10;
            boolean led = isWithin(gear, 1, 5) && isWithin(side, 1, 2);
            if (thing == null || !led || !isWithin(holds, 1, MOST_HOLDS)) {
                return BAD;
            }
            if (ropeCount >= ROPES) {
                return FULL;
            }
            ropes[ropeCount] = new Rope(ropeCount, thing, side == 1 ? 1 : -1, gear, holds);
            return ropeCount++;
        }

        int standingOn(int where) {
            if (!isStagePlace(where)) {
                return BAD;
            }
            int lane = where / PLACES;
            for (int i = 0; i < thingCount; i++) {
                if (things[i].lane == lane && things[i].covers(where % PLACES)) {
                    return i;
                }
            }
            return NOT;
        }

        /** Whether no THING but the one that is left out stands there. */
        boolean isClear(Thing leftOut, int lane, int at, int width) {
            for (int i = 0; i < thingCount; i++) {
                Thing other = things[i];
                boolean counts = other != leftOut && other.lane == lane;
                if (counts && overlap(at, width, other.at, other.width)) {
                    return false;
                }
            }
            return true;
        }

        int tieRope(int ropeNumber, int drumNumber) {
            Rope rope = ropeNumbered(ropeNumber);
            Drum drum = drumNumbered(drumNumber);
            if (rope == null || drum == null) {
                return BAD;
            }
            if (rope.gone || rope.thing.tied != null || rope.spare() < 0) {
                return NOT;
            }
            rope.bind(drum);
            return rope.spare();
        }

        int untieRope(int number) {
            Rope rope = ropeNumbered(number);
            if (rope == null || rope.drum == null) {
                return VOID;
            }
            int done = rope.done;
            rope.loosen();
            return done;
        }

        int tiedCount() {
            int tied = 0;
            for (int i = 0; i < ropeCount; i++) {
                if (ropes[i].drum != null) {
                    tied++;
                }
            }
            return tied;
        }

        int setWeight(int number, int value) {
            if (!isWithin(number, 0, COUNTERWEIGHTS - 1) || !isWithin(value, -MOST_WEIGHT, MOST_WEIGHT)) {
                return VOID;
            }
            int before = weights[number];
            weights[number] = value;
            return before;
        }

        int setBound(int value) {
            if (!isWithin(value, 0, MOST_BOUND)) {
                return BAD;
            }
            int before = bound;
            bound = value;
            return before;
        }

        int pullNow() {
            place(0);
            return trialPull();
        }

        /** Puts trialAt of each THING to where it would stand after so many steps. */
        void place(int steps) {
            for (int i = 0; i < thingCount; i++) {
                Thing thing = things[i];
                Rope tied = thing.tied;
                thing.trialAt = tied == null ? thing.at : tied.placeFrom(tied.start, tied.doneAfter(steps));
            }
        }

        /** PULL with each THING at its trialAt. */
        int trialPull() {
            int sum = 0;
            for (int i = 0; i < ropeCount; i++) {
                sum += ropes[i].pullAt(ropes[i].thing.trialAt);
            }
            for (int i = 0; i < COUNTERWEIGHTS; i++) {
                sum += weights[i];
            }
            return sum;
        }

        void advance(int steps) {
            for (int i = 0; i < ropeCount; i++) {
                ropes[i].advance(steps);
            }
            shaft += steps;
            wear += Math.abs(steps);
        }

        int breakRope(int number) {
            Rope rope = ropeNumbered(number);
            if (rope == null) {
                return BAD;
            }
            if (rope.drum == null) {
                return NOT;
            }
            int most = rope.done > 0 ? Math.abs(rope.thing.at - rope.start) : 0;
            rope.loosen();
            rope.gone = true;
            return fall(rope.thing, -rope.way, most);
        }

        /** How many places the THING fell, at most so many, step by step. */
        private int fall(Thing thing, int direction, int most) {
            int fallen = 0;
            while (fallen < most && canFall(thing, direction)) {
                thing.at += direction;
                fallen++;
            }
            return fallen;
        }

        private boolean canFall(Thing thing, int direction) {
            return !isCatch(thing.lane, thing.at)
                && isClear(thing, thing.lane, thing.at + direction, thing.width);
        }

        private boolean isCatch(int lane, int place) {
            for (int i = 0; i < catchCounts[lane]; i++) {
                if (catches[lane * CATCHES + i] == place) {
                    return true;
                }
            }
            return false;
        }

        int addCatch(int where) {
            if (!isStagePlace(where)) {
                return BAD;
            }
            int lane = where / PLACES;
            int place = where % PLACES;
            if (isCatch(lane, place)) {
                return BAD;
            }
            if (catchCounts[lane] >= CATCHES) {
                return FULL;
            }
            catches[lane * CATCHES + catchCounts[lane]] = place;
            catchCounts[lane]++;
            return catchCounts[lane];
        }

        private static boolean isStagePlace(int where) {
            return isWithin(where, 0, LANES * PLACES - 1);
        }

        /** Keeps what a CUE may change, so that it can be taken BACK. */
        void keep() {
            for (int i = 0; i < thingCount; i++) {
                things[i].keptAt = things[i].at;
                things[i].keptTied = things[i].tied;
            }
            for (int i = 0; i < ropeCount; i++) {
                Rope rope = ropes[i];
                rope.keptDrum = rope.drum;
                rope.keptStart = rope.start;
                rope.keptDone = rope.done;
            }
            System.arraycopy(weights, 0, keptWeights, 0, COUNTERWEIGHTS);
            keptShaft = shaft;
            keptWear = wear;
        }

        void restore() {
            for (int i = 0; i < thingCount; i++) {
                things[i].at = things[i].keptAt;
                things[i].tied = things[i].keptTied;
            }
            for (int i = 0; i < ropeCount; i++) {
                Rope rope = ropes[i];
                rope.drum = rope.keptDrum;
                rope.start = rope.keptStart;
                rope.done = rope.keptDone;
            }
            System.arraycopy(keptWeights, 0, weights, 0, COUNTERWEIGHTS);
            shaft = keptShaft;
            wear = keptWear;
        }
    }

    /** By what a turn was STOPPED; kind 0: by nothing. */
    private static final class Stop {
        int kind;
        int thing = -1;
        int other = -1;

        void put(int newKind, int newThing, int newOther) {
            kind = newKind;
            thing = newThing;
            other = newOther;
        }

        int tell(int what) {
            switch (what) {
                case 0: return kind;
                case 1: return thing;
                case 2: return other;
                default: return BAD;
            }
        }
    }

    private static final class Turning {
        final Stage stage;
        final Stop latest = new Stop();
        /** What ended the latest look ahead; free() leaves latest as it is. */
        final Stop ahead = new Stop();

        Turning(Stage stage) {
            this.stage = stage;
        }

        int turnBy(int n) {
            int steps = lookAhead(n);
            latest.put(ahead.kind, ahead.thing, ahead.other);
            stage.advance(n < 0 ? -steps : steps);
            return steps;
        }

        /**
         * How many of the steps can be done. Only the first step, for PULL may
         * be beyond BOUND already, and those by which a THING goes to another
         * place can be STOPPED: the quiet ones between are passed over.
         */
        int lookAhead(int n) {
            int direction = n < 0 ? -1 : 1;
            int most = Math.abs(n);
            ahead.put(0, -1, -1);
            for (int step = 1; step <= most; step += Math.max(1, stepsToNextMove(direction, step))) {
                stage.place(direction * step);
                if (isBeyond() || isMeeting() || isUneven(stage.trialPull())) {
                    return step - 1;
                }
            }
            return most;
        }

        private int stepsToNextMove(int direction, int steps) {
            int least = MOST_STEPS;
            for (int i = 0; i < stage.ropeCount; i++) {
                least = Math.min(least, stage.ropes[i].stepsToNextPlace(direction, steps));
            }
            return least;
        }

        private boolean isBeyond() {
            for (int i = 0; i < stage.thingCount; i++) {
                Thing thing = stage.things[i];
                if (!isWithin(thing.trialAt, thing.least, thing.most)) {
                    ahead.put(BEYOND, i, -1);
                    return true;
                }
            }
            return false;
        }

        private boolean isMeeting() {
            for (int i = 0; i < stage.thingCount; i++) {
                for (int j = i + 1; j < stage.thingCount; j++) {
                    if (stage.things[i].wouldMeet(stage.things[j])) {
                        ahead.put(MEETS, i, j);
                        return true;
                    }
                }
            }
            return false;
        }

        private boolean isUneven(int pull) {
            if (Math.abs(pull) <= stage.bound) {
                return false;
            }
            ahead.put(UNEVEN, -1, -1);
            return true;
        }
    }

    /** The latest change(): its TIES, and its WORK as it was when it was asked for. */
    private static final class Change {
        private static final int MOST_WORKS = 12;
        /** Each MAN counts so many, each minute of the last one's 1. */
        private static final int MAN = 100;

        final Stage stage;
        final int[] ropes = new int[THINGS];
        final int[] drums = new int[THINGS];
        /** By how many works of 2, 3 and 5 minutes: 12 in all make at most 5 times 5 times 5. */
        final int[] shares = new int[125];
        boolean asked;
        boolean found;
        int twos;
        int threes;
        int fives;

        Change(Stage stage) {
            this.stage = stage;
        }

        int plan(int scene, int n) {
            if (!isWithin(scene, 0, SCENES - 1) || !isTurn(n) || n == 0) {
                return BAD;
            }
            asked = true;
            found = true;
            Arrays.fill(ropes, -1);
            Arrays.fill(drums, -1);
            int toMove = 0;
            for (int i = 0; i < stage.thingCount && found; i++) {
                Thing thing = stage.things[i];
                int goal = thing.sceneAt[scene];
                if (goal != -1 && goal != thing.at) {
                    toMove++;
                    found = findTie(thing, goal, n);
                }
            }
            countWorks();
            return found ? toMove : NOT;
        }

        private boolean findTie(Thing thing, int goal, int n) {
            for (int i = 0; i < stage.ropeCount; i++) {
                Rope rope = stage.ropes[i];
                boolean serves = rope.thing == thing && !rope.gone && rope.spare() >= 0;
                int drum = serves ? findDrum(rope, goal, n) : -1;
                if (drum >= 0) {
                    ropes[thing.number] = i;
                    drums[thing.number] = drum;
                    return true;
                }
            }
            ropes[thing.number] = NOT;
            drums[thing.number] = NOT;
            return false;
        }

        private int findDrum(Rope rope, int goal, int n) {
            for (int i = 0; i < stage.drumCount; i++) {
                if (rope.placeFrom(rope.thing.at, stage.drums[i].size * n) == goal) {
                    return i;
                }
            }
            return -1;
        }

        private void countWorks() {
            twos = 0;
            threes = 0;
            fives = 0;
            for (int i = 0; i < stage.thingCount; i++) {
                Rope tied = stage.things[i].tied;
                if (ropes[i] < 0) {
                    twos += tied == null ? 0 : 1;
                } else if (tied == null) {
                    threes++;
                } else if (!isReady(tied, i)) {
                    fives++;
                }
            }
        }

        private boolean isReady(Rope tied, int thing) {
            return tied.number == ropes[thing] && tied.done == 0
                && tied.drum != null && tied.drum.number == drums[thing];
        }

        int tieOf(int thing, int what) {
            boolean named = stage.thingNumbered(thing) != null && isWithin(what, 0, 1);
            if (!asked || !named) {
                return BAD;
            }
            return what == 0 ? ropes[thing] : drums[thing];
        }

        int workFor(int what) {
            if (!asked || !isWithin(what, 0, 1)) {
                return BAD;
            }
            if (!found) {
                return NOT;
            }
            return what == 0 ? 2 * twos + 3 * threes + 5 * fives : works();
        }

        private int works() {
            return twos + threes + fives;
        }

        int leastMen(int t) {
            if (!asked || !isWithin(t, 1, 99)) {
                return BAD;
            }
            if (!found || longestWork() > t) {
                return NOT;
            }
            return works() > MOST_WORKS ? BIG : quotient(shareOut(t), MAN);
        }

        private int longestWork() {
            if (fives > 0) {
                return 5;
            }
            if (threes > 0) {
                return 3;
            }
            return twos > 0 ? 2 : 0;
        }

        /**
         * The least share of all works, by the least shares of one work less:
         * fewer MEN are better, and of as many, fewer minutes of the last one.
         */
        private int shareOut(int t) {
            int least = t;
            for (int a = 0; a <= twos; a++) {
                for (int b = 0; b <= threes; b++) {
                    for (int c = 0; c <= fives; c++) {
                        least = leastShare(a, b, c, t);
                        shares[slot(a, b, c)] = least;
                    }
                }
            }
            return least;
        }

        /** Without works there is no MAN, and nothing more goes to him. */
        private int leastShare(int a, int b, int c, int t) {
            int least = a + b + c == 0 ? t : MAN * MAN;
            if (a > 0) {
                least = Math.min(least, withWork(shares[slot(a - 1, b, c)], 2, t));
            }
            if (b > 0) {
                least = Math.min(least, withWork(shares[slot(a, b - 1, c)], 3, t));
            }
            if (c > 0) {
                least = Math.min(least, withWork(shares[slot(a, b, c - 1)], 5, t));
            }
            return least;
        }

        private int withWork(int share, int minutes, int t) {
            boolean fits = share % MAN + minutes <= t;
            return fits ? share + minutes : (share / MAN + 1) * MAN + minutes;
        }

        private int slot(int a, int b, int c) {
            return (a * (threes + 1) + b) * (fives + 1) + c;
        }
    }

    /** THE TAPE, and the LINES that were read from it. */
    private static final class Tape {
        private static final int MOST_LINES = TAPE_BYTES / SHORTEST_LINE;

        final int[] bytes = new int[TAPE_BYTES];
        final int[] letters = new int[MOST_LINES];
        final int[] firsts = new int[MOST_LINES];
        final int[] seconds = new int[MOST_LINES];
        int length;
        int lineCount;
        /** The place of the byte that is read next. */
        int next;
        int number;

        int take(int n, int v) {
            if (!isWithin(n, 1, 4)) {
                return BAD;
            }
            if (length + n > TAPE_BYTES) {
                return FULL;
            }
            for (int i = 0; i < n; i++) {
                bytes[length + i] = (v >> (8 * i)) & 255;
            }
            length += n;
            return length;
        }

        /** The FAULT of the TEXT, or -1. A TEXT has one LINE at least. */
        int readLines() {
            next = 0;
            lineCount = 0;
            do {
                if (lineCount >= MOST_LINES || !readLine(lineCount)) {
                    return next;
                }
                lineCount++;
            } while (next < length);
            return -1;
        }

        private boolean readLine(int line) {
            int letter = peek();
            letters[line] = letter;
            seconds[line] = 0;
            switch (letter) {
                case 't': return readTwo(line, false);
                case 'w': return readTwo(line, true);
                case 'u': return readOne(line, false);
                case 's': return readOne(line, true);
                default: return false;
            }
        }

        private boolean readOne(int line, boolean signed) {
            next++;
            if (!readNumber(signed)) {
                return false;
            }
            firsts[line] = number;
            return readSign(';');
        }

        private boolean readTwo(int line, boolean signed) {
            next++;
            if (!readNumber(false)) {
                return false;
            }
            firsts[line] = number;
            if (!readNumber(signed)) {
                return false;
            }
            seconds[line] = number;
            return readSign(';');
        }

        /** A blank and the number behind it. */
        private boolean readNumber(boolean signed) {
            if (!readSign(' ')) {
                return false;
            }
            boolean below = signed && readSign('-');
            int digits = 0;
            number = 0;
            while (digits < MOST_DIGITS && isWithin(peek(), '0', '9')) {
                number = 10 * number + peek() - '0';
                next++;
                digits++;
            }
            if (below) {
                number = -number;
            }
            return digits > 0;
        }

        private boolean readSign(int sign) {
            if (peek() != sign) {
                return false;
            }
            next++;
            return true;
        }

        /** The next byte, or -1 at the end. */
        private int peek() {
            return next >= 0 && next < length ? bytes[next] : -1;
        }
    }

    private static final class Candles {
        final int[] lengths = new int[CANDLES];
        /** The TIME at which each is out. */
        final int[] ends = new int[CANDLES];
        int number;
        int time;

        int add(int length) {
            if (!isWithin(length, 1, LONGEST_BURNING)) {
                return BAD;
            }
            if (number >= CANDLES) {
                return FULL;
            }
            lengths[number] = length;
            ends[number] = time + length;
            return number++;
        }

        int pass(int n) {
            if (!isWithin(n, 1, 1000) || time + n > MOST_TIME) {
                return BAD;
            }
            time += n;
            return time;
        }

        int renew(int k) {
            if (!isWithin(k, 0, LONGEST_BURNING)) {
                return BAD;
            }
            int renewed = 0;
            for (int i = 0; i < number; i++) {
                if (isWithin(ends[i] - time, 1, k)) {
                    ends[i] = time + lengths[i];
                    renewed++;
                }
            }
            return renewed;
        }

        int tell(int what) {
            switch (what) {
                case 0: return number - burning();
                case 1: return burning();
                case 2: return leastLeft();
                default: return BAD;
            }
        }

        private int burning() {
            int burning = 0;
            for (int i = 0; i < number; i++) {
                if (ends[i] > time) {
                    burning++;
                }
            }
            return burning;
        }

        private int leastLeft() {
            int least = -1;
            for (int i = 0; i < number; i++) {
                int left = ends[i] - time;
                if (left > 0 && (least < 0 || left < least)) {
                    least = left;
                }
            }
            return least;
        }
    }

    /** A FLAT, or a want. */
    private static final class Panel {
        final int height;
        final int width;
        final int paint;

        Panel(int size, int paint) {
            this.height = size / 100;
            this.width = size % 100;
            this.paint = paint;
        }

        int area() {
            return height * width;
        }

        boolean serves(Panel wanted) {
            return height >= wanted.height && width >= wanted.width;
        }

        int priceFor(Panel wanted) {
            int painting = paint == wanted.paint ? 0 : area();
            return painting + area() - wanted.area();
        }
    }

    private static final class Stock {
        private static final int NO_WAY = 1000000;

        final Panel[] flats = new Panel[FLATS];
        final Panel[] wants = new Panel[WANTS];
        final int[] givenFlats = new int[WANTS];
        /** By the set of FLATS that the first wants took: the least sum of the wants behind them. */
        final int[] sums = new int[1 << FLATS];
        int flatCount;
        int wantCount;
        int givenCount;

        int addFlat(int size, int paint) {
            if (!isPanel(size, paint)) {
                return BAD;
            }
            if (flatCount >= FLATS) {
                return FULL;
            }
            flats[flatCount] = new Panel(size, paint);
            return flatCount++;
        }

        int addWant(int size, int paint) {
            if (!isPanel(size, paint)) {
                return BAD;
            }
            if (wantCount >= WANTS) {
                return FULL;
            }
            wants[wantCount] = new Panel(size, paint);
            wantCount++;
            return wantCount;
        }

        private static boolean isPanel(int size, int paint) {
            return isWithin(size / 100, 1, 99) && isWithin(size % 100, 1, 99)
                && isWithin(paint, 0, PAINTS - 1);
        }

        int leastPainting() {
            int least = wantCount == 0 ? NO_WAY : leastSum();
            if (least < NO_WAY) {
                give();
            }
            wantCount = 0;
            return least < NO_WAY ? least : NOT;
        }

        /** A set with one FLAT more is a greater number, so it is known already. */
        private int leastSum() {
            for (int taken = (1 << flatCount) - 1; taken >= 0; taken--) {
                int want = Integer.bitCount(taken);
                if (want == wantCount) {
                    sums[taken] = 0;
                } else if (want < wantCount) {
                    sums[taken] = leastSumBehind(taken, wants[want]);
                }
            }
            return sums[0];
        }

        private int leastSumBehind(int taken, Panel wanted) {
            int least = NO_WAY;
            for (int i = 0; i < flatCount; i++) {
                least = Math.min(least, sumWith(taken, i, wanted));
            }
            return least;
        }

        private int sumWith(int taken, int flat, Panel wanted) {
            int with = taken | 1 << flat;
            if (with == taken || !flats[flat].serves(wanted)) {
                return NO_WAY;
            }
            return Math.min(NO_WAY, flats[flat].priceFor(wanted) + sums[with]);
        }

        /** Each want gets the least FLAT by which the least sum is still reached. */
        private void give() {
            int taken = 0;
            for (int i = 0; i < wantCount; i++) {
                int flat = 0;
                while (flat < flatCount - 1 && sumWith(taken, flat, wants[i]) != sums[taken]) {
                    flat++;
                }
                givenFlats[i] = flat;
                taken |= 1 << flat;
            }
            givenCount = wantCount;
        }

        int givenTo(int i) {
            return isWithin(i, 0, givenCount - 1) ? givenFlats[i] : BAD;
        }
    }
}
