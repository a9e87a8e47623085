import java.util.function.IntUnaryOperator;
import java.util.function.ToIntFunction;

/**
 * Each bound that the document names, at both of its ends and one beyond: how
 * many there may be, from which number to which, and what is just not refused.
 */
public final class EdgeTest {
    private static final Check CHECK = new Check("EdgeTest");
    private static final int BAD = StageMachine.BAD;
    private static final int NOT = StageMachine.NOT;
    private static final int FULL = StageMachine.FULL;
    private static final int BIG = StageMachine.BIG;
    private static final int VOID = StageMachine.VOID;

    public static void main(String[] args) {
        thing();
        thingOnAnother();
        ofThingAndOn();
        drumAndRope();
        ofRope();
        tie();
        weightAndBound();
        pullAtBound();
        turnAndFree();
        stopAtBounds();
        stopByAnother();
        snapAndHold();
        fall();
        scene();
        change();
        changeRounds();
        told();
        menAndWork();
        feedAndPlay();
        candles();
        candlesAtTheMinute();
        flats();
        paintEdges();
        count();
        rooms();
        CHECK.end();
    }

    /** What is not refused is least .. most; one beyond, and far beyond, the refusal is answered. */
    private static void range(String what, int least, int most, int refusal, IntUnaryOperator call) {
        near(what, least, most, refusal, call);
        CHECK.due(what + " far below", call.applyAsInt(Integer.MIN_VALUE), refusal);
        CHECK.due(what + " far above", call.applyAsInt(Integer.MAX_VALUE), refusal);
    }

    /** As range(), for a number that the call multiplies first. */
    private static void near(String what, int least, int most, int refusal, IntUnaryOperator call) {
        CHECK.due(what + " one below", call.applyAsInt(least - 1), refusal);
        CHECK.due(what + " one above", call.applyAsInt(most + 1), refusal);
        CHECK.holds(what + " least", call.applyAsInt(least) != refusal);
        CHECK.holds(what + " most", call.applyAsInt(most) != refusal);
    }

    /** So many find room, numbered from first on; the next two do not. */
    private static void room(String what, int first, int many, ToIntFunction<Integer> call) {
        for (int i = 0; i < many; i++) {
            CHECK.due(what + " " + i, call.applyAsInt(i), first + i);
        }
        CHECK.due(what + " one too many", call.applyAsInt(many), FULL);
        CHECK.due(what + " two too many", call.applyAsInt(many + 1), FULL);
    }

    private static StageMachine fresh() {
        return new StageMachine();
    }

    private static void thing() {
        range("2 where", 0, 1599, BAD, v -> fresh().thing(v, 1, 99, 0));
        range("2 WIDTH", 1, 60, BAD, v -> fresh().thing(0, v, 0, 0));
        range("2 WEIGHT", 0, 999, BAD, v -> fresh().thing(0, 1, 99, v));
        range("2 MOST by WIDTH 60", 0, 40, BAD, v -> fresh().thing(0, 60, v, 0));
        range("2 MOST by WIDTH 10", 0, 90, BAD, v -> fresh().thing(0, 10, v, 0));
        range("2 MOST by WIDTH 1", 0, 99, BAD, v -> fresh().thing(0, 1, v, 0));
        range("2 WIDTH by MOST 50", 1, 50, BAD, v -> fresh().thing(50, v, 50, 0));
        range("2 WIDTH by MOST 99", 1, 1, BAD, v -> fresh().thing(99, v, 99, 0));
        near("2 LEAST by AT 30", 0, 30, BAD, v -> fresh().thing(30, 1, 100 * v + 99, 0));
        near("2 LEAST by AT 0", 0, 0, BAD, v -> fresh().thing(0, 1, 100 * v + 99, 0));
        near("2 LEAST by AT 99", 0, 99, BAD, v -> fresh().thing(1599, 1, 100 * v + 99, 0));
        near("2 MOST by AT 30", 30, 99, BAD, v -> fresh().thing(30, 1, v, 0));
        near("2 AT by LEAST and MOST", 20, 40, BAD, v -> fresh().thing(v, 1, 2040, 0));
        near("2 AT by LEAST that is MOST", 20, 20, BAD, v -> fresh().thing(v, 1, 2020, 0));
        range("2 AT in the last LANE", 1520, 1540, BAD, v -> fresh().thing(v, 1, 2040, 0));
    }

    private static void thingOnAnother() {
        int[] at = {35, 36, 40, 49, 50};
        int[] due = {1, NOT, NOT, NOT, 1};
        for (int i = 0; i < at.length; i++) {
            StageMachine x = fresh();
            x.thing(40, 10, 90, 0);
            CHECK.due("2 beside AT 40 .. 49, at " + at[i], x.thing(at[i], 5, 95, 0), due[i]);
        }
        StageMachine x = fresh();
        x.thing(500, 10, 90, 0);
        CHECK.due("2 the LANE before", x.thing(490, 10, 90, 0), 1);
        CHECK.due("2 the LANE behind", x.thing(600, 10, 90, 0), 2);
        x.drum(10);
        x.rope(0, 11, 1);
        x.tie(0, 0);
        x.turn(100);
        CHECK.due("2 where it stood", x.thing(500, 10, 90, 0), 3);
        CHECK.due("2 where it stands", x.thing(519, 10, 90, 0), NOT);
        CHECK.due("2 just behind where it stands", x.thing(520, 10, 90, 0), 4);
    }

    private static void ofThingAndOn() {
        StageMachine x = fresh();
        range("4 on a new stage", 0, 1599, BAD, x::on);
        CHECK.due("3 no THING", x.ofThing(0, 0), -2);
        x.thing(0, 1, 99, 0);
        x.thing(1599, 1, 99, 0);
        range("3 THING", 0, 1, -2, v -> x.ofThing(v, 0));
        range("3 what", 0, 7, -2, v -> x.ofThing(0, v));
        range("4 place", 0, 1599, BAD, x::on);
        CHECK.row("4 the first and the last place", new int[] {x.on(0), x.on(1), x.on(99), x.on(100), x.on(1598), x.on(1599)},
            0, NOT, NOT, NOT, NOT, 1);
    }

    private static void drumAndRope() {
        range("5 SIZE", 1, 20, BAD, v -> fresh().drum(v));
        StageMachine x = fresh();
        x.thing(0, 1, 99, 0);
        x.thing(100, 1, 99, 0);
        range("6 THING", 0, 1, BAD, v -> x.rope(v, 11, 1));
        range("6 HOLDS", 1, 9999, BAD, v -> x.rope(0, 11, v));
        for (int gear = -1; gear <= 12; gear++) {
            for (int side = 0; side <= 9; side++) {
                StageMachine y = fresh();
                y.thing(0, 1, 99, 0);
                boolean led = gear >= 1 && gear <= 5 && (side == 1 || side == 2);
                CHECK.due("6 how " + (10 * gear + side), y.rope(0, 10 * gear + side, 1), led ? 0 : BAD);
            }
        }
        range("6 how", 11, 52, BAD, v -> x.rope(0, v, 1));
    }

    private static void ofRope() {
        StageMachine x = fresh();
        CHECK.due("7 no ROPE", x.ofRope(0, 0), VOID);
        x.thing(0, 1, 99, 10);
        for (int gear = 1; gear <= 5; gear++) {
            CHECK.due("6 rope", x.rope(0, 10 * gear + 1, 1), gear - 1);
        }
        range("7 ROPE", 0, 4, VOID, v -> x.ofRope(v, 0));
        range("7 what", 0, 7, VOID, v -> x.ofRope(0, v));
        CHECK.row("7 LOAD, up", new int[] {x.ofRope(0, 4), x.ofRope(1, 4), x.ofRope(2, 4), x.ofRope(3, 4), x.ofRope(4, 4)},
            10, 5, 4, 3, 2);
        int[] weights = {0, 1, 4, 5, 6, 999};
        int[] loads = {0, 1, 1, 1, 2, 200};
        for (int i = 0; i < weights.length; i++) {
            StageMachine y = fresh();
            y.thing(0, 1, 99, weights[i]);
            y.rope(0, 51, 1);
            CHECK.due("7 LOAD of WEIGHT " + weights[i] + " by GEAR 5", y.ofRope(0, 4), loads[i]);
        }
    }

    private static void tie() {
        StageMachine x = fresh();
        x.drum(1);
        x.drum(1);
        for (int i = 0; i < 3; i++) {
            x.thing(100 * i, 1, 99, 10);
            x.rope(i, 31, 3 + i);
        }
        near("8 DRUM", 0, 1, BAD, v -> {
            x.untie(2);
            return x.tie(2, v);
        });
        near("8 ROPE", 0, 2, BAD, v -> x.tie(v, 0));
        x.tie(1, 0);
        near("9 ROPE, and TIED", 1, 2, VOID, x::untie);
        CHECK.row("8 SPARE -1, 0, 1", new int[] {x.tie(0, 0), x.tie(1, 0), x.tie(2, 0)}, NOT, 0, 1);
        CHECK.row("9 far", new int[] {x.untie(Integer.MIN_VALUE), x.untie(Integer.MAX_VALUE)}, VOID, VOID);
        CHECK.row("8 far", new int[] {x.tie(Integer.MIN_VALUE, 0), x.tie(Integer.MAX_VALUE, 0),
            x.tie(1, Integer.MIN_VALUE), x.tie(1, Integer.MAX_VALUE)}, BAD, BAD, BAD, BAD);
        StageMachine y = fresh();
        y.drum(20);
        for (int i = 0; i < 40; i++) {
            y.thing(100 * (i / 3) + 30 * (i % 3), 1, 99, 1);
            y.rope(i, 11, 9999);
            CHECK.due("8 a DRUM takes any number of ROPES", y.tie(i, 0), 9998);
        }
        CHECK.row("34 all are TIED", new int[] {y.count(3), y.turn(50), y.ofThing(0, 3), y.ofThing(39, 3)}, 40, 50, 10, 10);
    }

    private static void weightAndBound() {
        StageMachine x = fresh();
        range("10 COUNTERWEIGHT", 0, 19, VOID, v -> x.weight(v, 0));
        range("10 v", -9999, 9999, VOID, v -> x.weight(7, v));
        range("11 BOUND", 0, 99999, BAD, x::bound);
        CHECK.due("11 BOUND at first", fresh().bound(1), 99999);
        StageMachine y = fresh();
        for (int i = 0; i < 20; i++) {
            y.weight(i, 9999);
        }
        CHECK.due("12 the most that weights pull", y.pull(), 20 * 9999);
        for (int i = 0; i < 20; i++) {
            CHECK.due("10 what it was", y.weight(i, -9999), 9999);
        }
        CHECK.due("12 the least that weights pull", y.pull(), -20 * 9999);
    }

    /** PULL may be as much as BOUND, without sign, and no more. */
    private static void pullAtBound() {
        for (int sign = -1; sign <= 1; sign += 2) {
            StageMachine x = fresh();
            for (int i = 0; i < 10; i++) {
                x.weight(i, sign * 9999);
            }
            x.weight(10, sign * 9);
            CHECK.row("12 99999", new int[] {x.pull(), x.turn(5), x.free(-5), x.stopped(0)}, sign * 99999, 5, 5, 0);
            x.weight(11, sign);
            CHECK.row("12 100000", new int[] {x.pull(), x.turn(5), x.free(-5), x.stopped(0)}, sign * 100000, 0, 0, 3);
            StageMachine y = fresh();
            y.bound(0);
            CHECK.due("13 BOUND 0, PULL 0", y.turn(-3), 3);
            y.weight(19, sign);
            CHECK.row("13 BOUND 0, PULL 1", new int[] {y.turn(3), y.stopped(0), y.stopped(1), y.stopped(2)}, 0, 3, -1, -1);
        }
    }

    private static void turnAndFree() {
        range("13 n", -9999, 9999, BAD, v -> fresh().turn(v));
        range("15 n", -9999, 9999, BAD, v -> fresh().free(v));
        CHECK.row("13 how many", new int[] {fresh().turn(9999), fresh().turn(-9999), fresh().turn(0)}, 9999, 9999, 0);
        CHECK.row("15 how many", new int[] {fresh().free(9999), fresh().free(-9999), fresh().free(0)}, 9999, 9999, 0);
        StageMachine x = fresh();
        x.thing(50, 1, 99, 0);
        x.thing(51, 1, 99, 0);
        x.drum(20);
        x.rope(0, 11, 1);
        x.tie(0, 0);
        CHECK.due("13 till it meets", x.turn(9), 4);
        range("14 what", 0, 2, BAD, x::stopped);
    }

    /** A THING of WEIGHT 0 at 50, LEAST 48, MOST 52, TIED to a DRUM of that SIZE. */
    private static StageMachine single(int how, int size) {
        StageMachine x = fresh();
        x.thing(50, 10, 4852, 0);
        x.drum(size);
        x.rope(0, how, 1);
        x.tie(0, 0);
        return x;
    }

    /** It may come to LEAST and to MOST; it is beyond by the step that makes the next place whole. */
    private static void stopAtBounds() {
        int[][] rows = {{11, 10, 29}, {11, 1, 299}, {11, 7, 42}, {11, 20, 14}, {31, 7, 128}, {52, 20, 74}, {52, 3, 499},
            {12, 10, 29}, {22, 13, 46}};
        for (int[] row : rows) {
            for (int n = -9999; n <= 9999; n += 19998) {
                String what = "13 how " + row[0] + " SIZE " + row[1] + " by " + n + ": ";
                StageMachine x = single(row[0], row[1]);
                int to = (n > 0) == (row[0] % 10 == 1) ? 52 : 48;
                CHECK.due(what + "free", x.free(n), row[2]);
                CHECK.due(what + "just so many", x.turn(n > 0 ? row[2] : -row[2]), row[2]);
                CHECK.row(what + "not STOPPED", new int[] {x.stopped(0), x.ofThing(0, 3)}, 0, to);
                CHECK.row(what + "one more", new int[] {x.turn(n > 0 ? 1 : -1), x.stopped(0), x.stopped(1), x.stopped(2)},
                    0, 1, 0, -1);
                CHECK.row(what + "what was STOPPED did not happen", new int[] {x.ofThing(0, 3), x.count(4), x.count(9),
                    x.ofRope(0, 6)}, to, n > 0 ? row[2] : -row[2], row[2], row[1] * (n > 0 ? row[2] : -row[2]));
            }
        }
    }

    /** Side by side is free; one place of both is not. */
    private static void stopByAnother() {
        StageMachine x = fresh();
        x.thing(50, 10, 90, 0);
        x.thing(62, 10, 90, 0);
        x.thing(45, 3, 97, 0);
        x.drum(10);
        x.rope(0, 11, 1);
        x.tie(0, 0);
        CHECK.row("13 till 50 .. 59 is 52 .. 61", new int[] {x.free(9999), x.turn(9999)}, 29, 29);
        CHECK.row("14", Check.stopped(x), 2, 0, 1);
        CHECK.row("4 side by side", new int[] {x.on(61), x.on(62)}, 0, 1);
        CHECK.due("13 back till 48 .. 57", x.turn(-9999), 29 + 29);
        CHECK.row("14", Check.stopped(x), 2, 0, 2);
        CHECK.row("4 side by side", new int[] {x.on(47), x.on(48)}, 2, 0);
    }

    private static void snapAndHold() {
        StageMachine x = fresh();
        x.drum(1);
        for (int i = 0; i < 3; i++) {
            x.thing(100 * i, 1, 99, 0);
            x.rope(i, 11, 1);
            x.tie(i, 0);
        }
        near("16 ROPE", 0, 2, BAD, x::snap);
        CHECK.row("16 far", new int[] {x.snap(Integer.MIN_VALUE), x.snap(Integer.MAX_VALUE)}, BAD, BAD);
        range("17 place", 0, 1599, BAD, v -> fresh().hold(v));
        for (int lane = 0; lane < 16; lane++) {
            int first = 100 * lane + 99;
            room("17 CATCH of LANE " + lane, 1, 5, i -> x.hold(first - i));
            for (int i = 0; i < 5; i++) {
                CHECK.due("17 it is there still, LANE " + lane, x.hold(first - i), BAD);
            }
        }
    }

    /** A THING at 50 went that many places; other THINGS and CATCHES are in its way. */
    private static StageMachine gone(int how, int places, int... others) {
        StageMachine x = fresh();
        x.thing(50, 5, 95, 0);
        x.drum(20);
        x.rope(0, how, 1);
        x.tie(0, 0);
        x.turn(5 * places);
        for (int other : others) {
            x.thing(other, 1, 99, 0);
        }
        return x;
    }

    private static void fall() {
        CHECK.row("16 as far as it went", new int[] {gone(11, 9).snap(0), gone(12, 9).snap(0)}, 9, 9);
        CHECK.row("16 DONE 0", new int[] {gone(11, 0).snap(0), gone(12, 0).snap(0)}, 0, 0);
        CHECK.row("16 DONE below 0", new int[] {gone(11, -9).snap(0), gone(12, -9).snap(0)}, 0, 0);
        CHECK.row("16 not so far that it stands on 50", new int[] {gone(11, 9, 49).snap(0), gone(11, 9, 50).snap(0),
            gone(11, 9, 51).snap(0), gone(11, 9, 58).snap(0)}, 9, 8, 7, 0);
        CHECK.row("16 not so far that it stands on 54", new int[] {gone(12, 9, 55).snap(0), gone(12, 9, 54).snap(0),
            gone(12, 9, 53).snap(0), gone(12, 9, 46).snap(0)}, 9, 8, 7, 0);
        CHECK.due("16 one in another LANE is in nobody's way", gone(11, 9, 154).snap(0), 9);
        int[] catches = {49, 50, 51, 58, 59, 60, 151};
        int[] fallen = {9, 9, 8, 1, 0, 9, 9};
        for (int i = 0; i < catches.length; i++) {
            StageMachine x = gone(11, 9);
            x.hold(catches[i]);
            CHECK.row("16 CATCH " + catches[i], new int[] {x.snap(0), x.ofThing(0, 3)}, fallen[i], 59 - fallen[i]);
        }
        for (int fifth = 0; fifth < 5; fifth++) {
            StageMachine x = gone(12, 9);
            for (int i = 0; i < 5; i++) {
                x.hold(i == fifth ? 45 : 80 + i);
            }
            CHECK.due("16 each of five CATCHES stops, the one told as " + fifth, x.snap(0), 4);
        }
        CHECK.row("16 to the ends of the stage", new int[] {fallToEnd(0, 11), fallToEnd(99, 12)}, 9, 9);
        StageMachine y = fresh();
        y.thing(50, 5, 95, 0);
        y.drum(1);
        y.rope(0, 11, 1);
        y.tie(0, 0);
        y.turn(99);
        CHECK.row("16 DONE above 0, no place yet", new int[] {y.ofRope(0, 6), y.snap(0), y.ofThing(0, 3)}, 99, 0, 50);
    }

    private static int fallToEnd(int end, int how) {
        StageMachine x = fresh();
        x.thing(1500 + end, 1, 99, 0);
        x.drum(20);
        x.rope(0, how, 1);
        x.tie(0, 0);
        x.turn(45);
        int fallen = x.snap(0);
        CHECK.row("16 at the end", new int[] {x.ofThing(0, 3), x.on(1500 + end)}, end, 0);
        return fallen;
    }

    private static void scene() {
        StageMachine x = fresh();
        x.thing(50, 5, 3070, 0);
        x.thing(150, 5, 95, 0);
        range("18 SCENE", 0, 9, -2, v -> x.scene(v, 0, -1));
        range("18 THING", 0, 1, -2, v -> x.scene(0, v, -1));
        range("18 AT", 30, 70, -2, v -> x.scene(0, 0, v));
        CHECK.due("18 none", x.scene(0, 0, -1), 70);
        CHECK.row("18 AT 0 is told, not none", new int[] {x.scene(0, 1, 0), x.scene(0, 1, -1), x.scene(0, 1, -1)}, -1, 0, -1);
    }

    private static void change() {
        StageMachine x = fresh();
        range("19 SCENE", 0, 9, BAD, v -> x.change(v, 1));
        range("19 n", -9999, 9999, BAD, v -> x.change(0, v));
        CHECK.row("19 n -1, 0, 1", new int[] {x.change(0, -1), x.change(0, 0), x.change(0, 1)}, 0, BAD, 0);
        StageMachine y = fresh();
        y.thing(0, 1, 99, 0);
        y.scene(0, 0, 99);
        CHECK.due("19 no ROPE", y.change(0, 99), NOT);
        y.rope(0, 51, 1);
        CHECK.due("19 no DRUM", y.change(0, 99), NOT);
        y.drum(5);
        CHECK.row("19 by most steps", new int[] {y.change(0, 9899), y.change(0, 9900), y.change(0, 9999)}, NOT, 1, 1);
        y.scene(0, 0, 0);
        CHECK.due("19 its AT is that one", y.change(0, 1), 0);
        StageMachine z = fresh();
        z.thing(0, 1, 99, 10);
        z.drum(10);
        z.rope(0, 11, 9);
        z.scene(0, 0, 10);
        CHECK.due("19 SPARE -1", z.change(0, 100), NOT);
        z.rope(0, 11, 10);
        CHECK.row("19 SPARE 0", new int[] {z.change(0, 100), z.told(0, 0)}, 1, 1);
        CHECK.due("8 the tie that was told", z.tie(1, 0), 0);
        CHECK.row("19 just by n steps", new int[] {z.turn(100), z.ofThing(0, 3), z.change(0, 100)}, 100, 10, 0);
    }

    /** The rest of the quotient goes away toward 0, forward and back, for each WAY. */
    private static void changeRounds() {
        int[] steps = {99, 100, 199, 200};
        int[] places = {0, 1, 1, 2};
        for (int way = 1; way >= -1; way -= 2) {
            for (int sign = -1; sign <= 1; sign += 2) {
                for (int i = 0; i < steps.length; i++) {
                    StageMachine x = fresh();
                    x.thing(50, 1, 99, 0);
                    x.drum(3);
                    x.rope(0, way == 1 ? 31 : 32, 1);
                    x.scene(0, 0, 50 + sign * way);
                    int due = places[i] == 1 ? 1 : NOT;
                    CHECK.due("19 one place, WAY " + way + " by " + sign * steps[i], x.change(0, sign * steps[i]), due);
                }
            }
        }
    }

    private static void told() {
        StageMachine x = fresh();
        x.thing(0, 1, 99, 0);
        x.thing(100, 1, 99, 0);
        CHECK.row("20 before any", new int[] {x.told(0, 0), x.told(1, 1), x.work(0), x.work(1), x.men(1)},
            BAD, BAD, BAD, BAD, BAD);
        x.change(0, 0);
        x.change(10, 1);
        CHECK.row("20 before any but refused ones", new int[] {x.told(0, 0), x.work(0), x.men(1)}, BAD, BAD, BAD);
        x.drum(20);
        for (int i = 0; i < 2; i++) {
            x.rope(i, 11, 1);
            x.scene(0, i, 20);
        }
        CHECK.due("19 both", x.change(0, 100), 2);
        near("20 THING", 0, 1, BAD, v -> x.told(v, 0));
        range("20 what", 0, 1, BAD, v -> x.told(1, v));
        CHECK.row("20 far", new int[] {x.told(Integer.MIN_VALUE, 0), x.told(Integer.MAX_VALUE, 0)}, BAD, BAD);
        CHECK.due("2 another THING", x.thing(200, 1, 99, 0), 2);
        CHECK.row("20 it is not to be moved", new int[] {x.told(2, 0), x.told(2, 1)}, -1, -1);
    }

    /** So many THINGS that are to be TIED (3 minutes each), by a change. */
    private static StageMachine threes(int many) {
        StageMachine x = fresh();
        x.drum(10);
        for (int i = 0; i < many; i++) {
            x.thing(100 * (i % 16) + 50 * (i / 16), 1, 99, 0);
            x.rope(i, 11, 1);
            x.scene(0, i, 50 * (i / 16) + 1);
        }
        x.change(0, 10);
        return x;
    }

    private static void menAndWork() {
        StageMachine x = threes(1);
        range("21 what", 0, 1, BAD, x::work);
        range("22 t", 1, 99, BAD, x::men);
        CHECK.row("22 one work of 3", new int[] {x.men(1), x.men(2), x.men(3), x.men(99)}, NOT, NOT, 1, 1);
        StageMachine twelve = threes(12);
        CHECK.row("22 12 works", new int[] {twelve.men(2), twelve.men(3), twelve.men(5), twelve.men(6), twelve.men(35),
            twelve.men(36), twelve.men(99)}, NOT, 12, 12, 6, 2, 1, 1);
        StageMachine thirteen = threes(13);
        CHECK.row("22 13 works", new int[] {thirteen.men(2), thirteen.men(3), thirteen.men(99)}, NOT, BIG, BIG);
        CHECK.row("21 13 works", new int[] {thirteen.work(0), thirteen.work(1)}, 39, 13);
        thirteen.tie(12, 0);
        thirteen.change(0, 10);
        CHECK.row("22 one of 13 is ready", new int[] {thirteen.work(0), thirteen.work(1), thirteen.men(36)}, 36, 12, 1);
        StageMachine none = threes(0);
        CHECK.row("22 no work", new int[] {none.work(0), none.work(1), none.men(1), none.men(99)}, 0, 0, 0, 0);
    }

    private static void feedAndPlay() {
        range("23 n", 1, 4, BAD, v -> fresh().feed(v, 0));
        for (int n = 1; n <= 4; n++) {
            StageMachine x = fresh();
            for (int length = n; length <= 120; length += n) {
                CHECK.due("23 by " + n, x.feed(n, 0), length);
            }
            CHECK.row("23 FULL by " + n, new int[] {x.feed(n, 0), x.count(8)}, FULL, 120);
        }
        StageMachine y = fresh();
        CHECK.due("23 117", Check.feedText(y, "s 1;".repeat(29) + "s"), 117);
        CHECK.row("23 what does not fit", new int[] {y.feed(4, 0), y.count(8), y.feed(3, ' ' | '1' << 8 | ';' << 16),
            y.feed(1, 0)}, FULL, 117, 120, FULL);
        CHECK.row("24 120 bytes", new int[] {y.play(), y.count(8), y.count(4)}, 30, 0, 30);
    }

    private static void candles() {
        range("26 minutes", 1, 300, BAD, v -> fresh().candle(v));
        range("27 n", 1, 1000, BAD, v -> fresh().minutes(v));
        range("28 k", 0, 300, BAD, v -> fresh().trim(v));
        range("29 what", 0, 2, BAD, v -> {
            StageMachine x = fresh();
            x.candle(1);
            return x.light(v);
        });
        StageMachine x = fresh();
        for (int i = 0; i < 9; i++) {
            x.minutes(1000);
        }
        CHECK.row("27 till 9999", new int[] {x.minutes(1000), x.minutes(998), x.minutes(2), x.minutes(1), x.minutes(1),
            x.count(5)}, BAD, 9998, BAD, 9999, BAD, 9999);
        CHECK.row("26 lit in the last minute", new int[] {x.candle(300), x.light(2), x.trim(299), x.trim(300)}, 0, 300, 0, 1);
    }

    /** It burns in its last minute, and is out when that has gone by. */
    private static void candlesAtTheMinute() {
        StageMachine x = fresh();
        x.candle(10);
        x.minutes(9);
        CHECK.row("29 one minute left", new int[] {x.light(0), x.light(1), x.light(2)}, 0, 1, 1);
        CHECK.due("28 none has none left", x.trim(0), 0);
        x.minutes(1);
        CHECK.row("29 out", new int[] {x.light(0), x.light(1), x.light(2)}, 1, 0, -1);
        CHECK.row("28 out is out", new int[] {x.trim(0), x.trim(300), x.light(0)}, 0, 0, 1);
        StageMachine y = fresh();
        y.candle(10);
        y.minutes(4);
        CHECK.row("28 six left", new int[] {y.trim(5), y.light(2), y.trim(6), y.light(2), y.trim(9), y.trim(10)},
            0, 6, 1, 10, 0, 1);
        y.minutes(10);
        CHECK.due("29 out ten minutes behind TRIM", y.light(0), 1);
        StageMachine z = fresh();
        z.candle(300);
        z.minutes(299);
        CHECK.row("29 the longest", new int[] {z.light(1), z.light(2), z.minutes(1), z.light(1)}, 1, 1, 300, 0);
        CHECK.due("28 a candle that is out is no more lit by a long time", z.minutes(1000), 1300);
        CHECK.row("29 still out", new int[] {z.light(0), z.trim(300)}, 1, 0);
    }

    private static void flats() {
        for (int side = 0; side < 2; side++) {
            String name = side == 0 ? "30 flat " : "31 want ";
            boolean flat = side == 0;
            range(name + "height", 1, 99, BAD, v -> made(flat, v > 1000 || v < -1000 ? v : 100 * v + 5, 0));
            range(name + "PAINT", 0, 9, BAD, v -> made(flat, 101, v));
            near(name + "width", 1, 99, BAD, v -> v == 100 ? made(flat, 600, 0) : made(flat, 500 + v, 0));
            CHECK.row(name + "no size", new int[] {made(flat, 0, 0), made(flat, 1, 0), made(flat, 99, 0), made(flat, 100, 0),
                made(flat, -101, 0), made(flat, 10000, 0), made(flat, 10101, 0)}, BAD, BAD, BAD, BAD, BAD, BAD, BAD);
        }
    }

    private static int made(boolean flat, int size, int paint) {
        return flat ? fresh().flat(size, paint) : fresh().want(size, paint);
    }

    /** Not lower and not narrower: just as high and as wide serves. */
    private static void paintEdges() {
        int[] sizes = {1020, 1019, 1021, 920, 1120, 919, 1121};
        int[] due = {0, 10, NOT, 20, NOT, 200 - 171, NOT};
        for (int i = 0; i < sizes.length; i++) {
            StageMachine x = fresh();
            x.flat(1020, 3);
            x.want(sizes[i], 3);
            CHECK.due("32 want of " + sizes[i], x.paint(), due[i]);
            CHECK.due("33 its FLAT", x.given(0), due[i] == NOT ? BAD : 0);
            x.want(sizes[i], 4);
            CHECK.due("32 and painted", x.paint(), due[i] == NOT ? NOT : due[i] + 200);
        }
        StageMachine y = fresh();
        CHECK.due("32 no FLAT, no want", y.paint(), NOT);
        for (int i = 0; i < 6; i++) {
            y.flat(505, 0);
        }
        for (int i = 0; i < 6; i++) {
            y.want(505, 0);
        }
        CHECK.due("32 as many wants as FLATS", y.paint(), 0);
        range("33 want", 0, 5, BAD, y::given);
        y.want(505, 0);
        y.want(505, 1);
        CHECK.due("32 two wants", y.paint(), 25);
        range("33 want of two", 0, 1, BAD, y::given);
        StageMachine z = fresh();
        for (int i = 0; i < 12; i++) {
            z.flat(i == 11 ? 9999 : 101, 0);
        }
        z.want(202, 0);
        CHECK.row("32 the last FLAT", new int[] {z.paint(), z.given(0)}, 9801 - 4, 11);
    }

    private static void count() {
        range("34 what", 0, 9, VOID, v -> fresh().count(v));
    }

    private static void rooms() {
        StageMachine x = fresh();
        room("2 THINGS", 0, 40, i -> x.thing(100 * (i / 3) + 30 * (i % 3), 1, 99, 0));
        room("5 DRUMS", 0, 20, i -> x.drum(20 - i % 20));
        room("6 ROPES", 0, 40, i -> x.rope(39, 11, 1));
        room("26 CANDLES", 0, 60, i -> x.candle(1));
        room("30 FLATS", 0, 12, i -> x.flat(101, 0));
        room("31 THE LIST", 1, 6, i -> x.want(101, 0));
        CHECK.due("32 THE LIST is empty then", x.paint(), 0);
        room("31 THE LIST anew", 1, 6, i -> x.want(202, 0));
        CHECK.due("32 THE LIST is empty then, too", x.paint(), NOT);
        room("31 THE LIST once more", 1, 6, i -> x.want(101, 0));
        StageMachine y = fresh();
        y.drum(1);
        y.thing(0, 1, 99, 0);
        for (int i = 0; i < 40; i++) {
            y.rope(0, 11, 1);
            y.tie(i, 0);
            y.snap(i);
        }
        CHECK.row("6 gone ones count", new int[] {y.count(2), y.count(3), y.rope(0, 11, 1)}, 40, 0, FULL);
    }
}
