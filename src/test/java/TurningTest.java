/** Promises 13 to 17: turning. */
public final class TurningTest {
    private static final Check CHECK = new Check("TurningTest");

    public static void main(String[] args) {
        turn();
        towardZero();
        stoppedByBounds();
        stoppedByOthers();
        stoppedByPull();
        stoppedOnTheWayBack();
        orderOfStops();
        stopped();
        free();
        snap();
        snapStopped();
        hold();
        CHECK.end();
    }

    /** One THING of weight 10 at 50 of LANE 0, a rope to the right and one to the left, both of gear 1. */
    private static StageMachine single() {
        StageMachine x = new StageMachine();
        x.thing(50, 10, 90, 10);
        x.drum(10);
        x.rope(0, 11, 99);
        x.rope(0, 12, 99);
        return x;
    }

    private static void turn() {
        StageMachine x = single();
        CHECK.due("13 without a rope", x.turn(9999), 9999);
        CHECK.due("13 shaft", x.count(4), 9999);
        x.tie(0, 0);
        CHECK.due("13 none", x.turn(0), 0);
        CHECK.due("13 forward", x.turn(25), 25);
        CHECK.due("13 where it is", x.ofThing(0, 3), 52);
        CHECK.due("13 back", x.turn(-6), 6);
        CHECK.due("13 where it is then", x.ofThing(0, 3), 51);
        CHECK.due("13 shaft then", x.count(4), 9999 + 19);
        CHECK.due("13 wear", x.count(9), 9999 + 31);
        CHECK.due("13 too far", x.turn(10000), StageMachine.BAD);
        CHECK.due("13 too far back", x.turn(-10000), StageMachine.BAD);
        CHECK.due("13 the least number", x.turn(Integer.MIN_VALUE), StageMachine.BAD);
        CHECK.due("13 nothing came of it", x.count(9), 9999 + 31);
        x.untie(0);
        x.tie(1, 0);
        CHECK.due("13 to the left", x.turn(20), 20);
        CHECK.due("13 where it is at last", x.ofThing(0, 3), 49);
        CHECK.due("13 farthest back", new StageMachine().turn(-9999), 9999);
    }

    private static void towardZero() {
        StageMachine x = single();
        x.rope(0, 31, 99);
        x.drum(7);
        x.tie(2, 1);
        int[] steps = {42, 1, -43, -42, -1, 1, 42, 1};
        int[] at = {50, 51, 50, 50, 49, 50, 50, 50};
        for (int i = 0; i < steps.length; i++) {
            CHECK.due("13 steps " + i, x.turn(steps[i]), Math.abs(steps[i]));
            CHECK.due("13 at " + i, x.ofThing(0, 3), at[i]);
        }
    }

    private static void stoppedByBounds() {
        StageMachine x = single();
        x.tie(0, 0);
        CHECK.due("13 till MOST", x.turn(9999), 409);
        CHECK.row("14 beyond MOST", Check.stopped(x), 1, 0, -1);
        CHECK.due("13 it stands at MOST", x.ofThing(0, 3), 90);
        CHECK.due("13 no further", x.turn(1), 0);
        CHECK.row("14 again", Check.stopped(x), 1, 0, -1);
        CHECK.due("13 till LEAST", x.turn(-9999), 409 + 509);
        CHECK.row("14 beyond LEAST", Check.stopped(x), 1, 0, -1);
        CHECK.due("13 it stands at LEAST", x.ofThing(0, 3), 0);
        CHECK.due("13 shaft", x.count(4), -509);
        CHECK.due("13 not beyond", x.turn(9), 9);
        CHECK.row("14 by nothing", Check.stopped(x), 0, -1, -1);
    }

    private static void stoppedByOthers() {
        StageMachine x = new StageMachine();
        x.thing(80, 10, 90, 1);
        x.thing(120, 10, 90, 1);
        x.thing(50, 10, 90, 1);
        x.thing(70, 5, 95, 1);
        x.drum(20);
        x.rope(2, 11, 9);
        x.rope(1, 11, 9);
        x.tie(0, 0);
        x.tie(1, 0);
        CHECK.due("13 till it meets", x.turn(500), 54);
        CHECK.row("14 meets", Check.stopped(x), 2, 2, 3);
        CHECK.due("13 beside it", x.ofThing(2, 3), 60);
        x.untie(0);
        CHECK.due("13 other lanes are free", x.turn(100), 100);

        StageMachine y = new StageMachine();
        for (int i = 0; i < 5; i++) {
            y.thing(20 * i, 10, 90, 1);
        }
        y.drum(10);
        y.rope(3, 11, 9);
        y.rope(1, 12, 9);
        y.rope(2, 11, 9);
        y.tie(0, 0);
        y.tie(1, 0);
        CHECK.due("13 two meet at once", y.turn(500), 109);
        CHECK.row("14 the least thing, the least other", Check.stopped(y), 2, 0, 1);
        y.untie(1);
        CHECK.due("13 the other pair", y.turn(5), 0);
        CHECK.row("14 the other pair", Check.stopped(y), 2, 3, 4);
    }

    private static void stoppedByPull() {
        StageMachine x = single();
        x.tie(0, 0);
        x.bound(130);
        CHECK.due("12 at first", x.pull(), 100);
        CHECK.due("13 till uneven", x.turn(100), 39);
        CHECK.row("14 uneven", Check.stopped(x), 3, -1, -1);
        CHECK.due("12 just BOUND", x.pull(), 130);
        x.bound(40);
        CHECK.due("13 uneven already, though it moves nothing", x.turn(-1), 0);
        x.weight(0, -170);
        CHECK.due("12 just BOUND, below 0", x.pull(), -40);
        CHECK.due("15 back till the next place", x.free(-100), 9);
        CHECK.due("13 from -40 to 40", x.turn(5000), 80);
        CHECK.due("12 then", x.pull(), 40);
        CHECK.row("14 uneven again", Check.stopped(x), 3, -1, -1);
    }

    private static void stoppedOnTheWayBack() {
        StageMachine x = single();
        x.drum(1);
        x.tie(0, 1);
        CHECK.due("13 back", x.turn(-150), 150);
        CHECK.due("12 one place less", x.pull(), 0);
        x.bound(9);
        CHECK.due("15 till DONE -100", x.free(200), 50);
        CHECK.due("13 till DONE -100", x.turn(200), 50);
        CHECK.row("14 uneven", Check.stopped(x), 3, -1, -1);
        x.bound(99999);
        CHECK.due("13 at DONE -99", x.turn(1), 1);
        CHECK.due("13 where it was tied", x.ofThing(0, 3), 50);
        x.bound(10);
        CHECK.due("13 till DONE 99", x.turn(1000), 198);
        CHECK.due("13 and till DONE -109, at 49", x.turn(-208), 208);
        CHECK.due("12 within BOUND", x.pull(), 0);
    }

    private static void orderOfStops() {
        StageMachine x = new StageMachine();
        x.thing(0, 10, 10, 100);
        x.thing(20, 10, 90, 100);
        x.thing(130, 10, 3090, 100);
        x.drum(10);
        x.rope(0, 11, 999);
        x.rope(2, 12, 999);
        x.rope(1, 12, 999);
        x.tie(0, 0);
        x.turn(100);
        x.tie(1, 0);
        x.bound(0);
        x.weight(0, -1000);
        CHECK.due("12 even", x.pull(), 0);
        x.untie(0);
        x.tie(0, 0);
        x.weight(0, 0);
        x.turn(9);
        CHECK.due("13 all three at once", x.turn(1), 0);
        CHECK.row("14 the first reason, the least thing", Check.stopped(x), 1, 0, -1);
        x.untie(0);
        x.untie(1);
        x.tie(2, 0);
        x.weight(0, 1000);
        CHECK.due("13 the second and third at once", x.turn(10), 9);
        CHECK.row("14 the second reason", Check.stopped(x), 2, 0, 1);
    }

    private static void stopped() {
        StageMachine x = single();
        x.tie(0, 0);
        x.turn(9999);
        CHECK.due("14 what 3", x.stopped(3), StageMachine.BAD);
        CHECK.due("14 what -1", x.stopped(-1), StageMachine.BAD);
        x.turn(20000);
        CHECK.row("14 a refused turn changes nothing", Check.stopped(x), 1, 0, -1);
        x.free(-3);
        CHECK.row("14 free() changes nothing", Check.stopped(x), 1, 0, -1);
        x.turn(0);
        CHECK.row("14 a turn by 0 is stopped by nothing", Check.stopped(x), 0, -1, -1);
    }

    private static void free() {
        StageMachine x = single();
        x.tie(0, 0);
        CHECK.due("15 forward", x.free(9999), 409);
        CHECK.due("15 back", x.free(-9999), 509);
        CHECK.due("15 at most n", x.free(30), 30);
        CHECK.due("15 at most n back", x.free(-30), 30);
        CHECK.due("15 none", x.free(0), 0);
        CHECK.due("15 too far", x.free(10000), StageMachine.BAD);
        CHECK.due("15 too far back", x.free(-10000), StageMachine.BAD);
        CHECK.due("15 shaft", x.count(4), 0);
        CHECK.due("15 wear", x.count(9), 0);
        CHECK.row("15 nothing is done", Check.ofThing(x, 0), 0, 10, 10, 50, 0, 90, 0, 50);
        CHECK.due("15 DONE", x.ofRope(0, 6), 0);
        x.bound(0);
        CHECK.due("15 uneven", x.free(9), 0);
        CHECK.row("15 stopped", Check.stopped(x), 0, -1, -1);
    }

    private static void snap() {
        StageMachine x = single();
        CHECK.due("16 not tied", x.snap(0), StageMachine.NOT);
        CHECK.due("16 no such rope", x.snap(2), StageMachine.BAD);
        CHECK.due("16 rope -1", x.snap(-1), StageMachine.BAD);
        x.tie(0, 0);
        x.turn(35);
        CHECK.due("16 falls to the left", x.snap(0), 3);
        CHECK.row("16 back where it was", Check.ofThing(x, 0), 0, 10, 10, 50, 0, 90, -1, -1);
        CHECK.due("16 gone", x.ofRope(0, 7), 1);
        CHECK.due("16 twice", x.snap(0), StageMachine.NOT);
        CHECK.due("16 tied ones", x.count(3), 0);
        CHECK.due("16 ropes", x.count(2), 2);
        x.tie(1, 0);
        x.turn(70);
        CHECK.due("16 falls to the right", x.snap(1), 7);
        CHECK.due("16 at", x.ofThing(0, 3), 50);

        StageMachine y = single();
        y.tie(0, 0);
        y.turn(-35);
        CHECK.due("16 went the other way: it does not fall", y.snap(0), 0);
        CHECK.due("16 it stays", y.ofThing(0, 3), 47);
    }

    private static void snapStopped() {
        StageMachine x = single();
        x.tie(0, 0);
        x.turn(300);
        x.thing(55, 5, 95, 1);
        x.thing(150, 50, 50, 1);
        CHECK.due("16 till it would stand on another", x.snap(0), 20);
        CHECK.due("16 beside it", x.ofThing(0, 3), 60);

        StageMachine y = single();
        y.hold(57);
        y.hold(158);
        y.tie(0, 0);
        y.turn(100);
        CHECK.due("16 till a catch", y.snap(0), 3);
        CHECK.due("16 at the catch", y.ofThing(0, 3), 57);

        StageMachine z = single();
        z.tie(1, 0);
        z.turn(100);
        z.hold(40);
        CHECK.due("16 at a catch already", z.snap(1), 0);

        StageMachine w = single();
        w.tie(1, 0);
        w.turn(100);
        w.hold(50);
        w.hold(49);
        w.hold(41);
        CHECK.due("16 the first catch to the right", w.snap(1), 1);
    }

    private static void hold() {
        StageMachine x = new StageMachine();
        CHECK.due("17 below", x.hold(-1), StageMachine.BAD);
        CHECK.due("17 beyond", x.hold(1600), StageMachine.BAD);
        for (int i = 0; i < 5; i++) {
            CHECK.due("17 catch " + i, x.hold(300 + 99 - i), i + 1);
        }
        CHECK.due("17 full", x.hold(300), StageMachine.FULL);
        CHECK.due("17 there already: BAD ahead of FULL", x.hold(397), StageMachine.BAD);
        CHECK.due("17 other lane", x.hold(497), 1);
        CHECK.due("17 there already", x.hold(497), StageMachine.BAD);
        CHECK.due("17 one more there", x.hold(400), 2);
        CHECK.due("17 first place", x.hold(0), 1);
        CHECK.due("17 last place", x.hold(1599), 1);
    }
}
