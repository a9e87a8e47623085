import java.util.function.ToIntFunction;

/** "Of several the one named first": where several answers are due at once, the first one is given. */
public final class OrderTest {
    private static final Check CHECK = new Check("OrderTest");
    private static final int BAD = StageMachine.BAD;
    private static final int NOT = StageMachine.NOT;
    private static final int FULL = StageMachine.FULL;
    private static final int BIG = StageMachine.BIG;
    private static final int STOPPED = StageMachine.STOPPED;

    public static void main(String[] args) {
        thing();
        full();
        tie();
        hold();
        changeAndMen();
        play();
        stopsByKind();
        stopsByThing();
        stopsByPair();
        ropesAndDrums();
        flats();
        CHECK.end();
    }

    private static void full(String what, int due, ToIntFunction<StageMachine> call) {
        StageMachine x = new StageMachine();
        Stages.full(x);
        CHECK.due(what, call.applyAsInt(x), due);
    }

    private static void thing() {
        full("2 BAD, NOT and FULL: WIDTH", BAD, x -> x.thing(0, 61, 39, 0));
        full("2 BAD, NOT and FULL: WEIGHT", BAD, x -> x.thing(0, 1, 99, 1000));
        full("2 BAD, NOT and FULL: LEAST", BAD, x -> x.thing(0, 1, 199, 0));
        full("2 BAD, NOT and FULL: MOST", BAD, x -> x.thing(1, 1, 0, 0));
        full("2 BAD, NOT and FULL: MOST and WIDTH", BAD, x -> x.thing(0, 2, 99, 0));
        full("2 BAD and FULL", BAD, x -> x.thing(1400, 0, 99, 0));
        full("2 BAD and FULL: where", BAD, x -> x.thing(1600, 1, 99, 0));
        full("2 NOT and FULL", NOT, x -> x.thing(0, 1, 99, 0));
        full("2 FULL", FULL, x -> x.thing(1400, 1, 99, 0));
        StageMachine y = new StageMachine();
        y.thing(0, 1, 99, 0);
        CHECK.due("2 BAD and NOT", y.thing(0, 1, 99, -1), BAD);
    }

    private static void full() {
        full("5 BAD and FULL: SIZE 0", BAD, x -> x.drum(0));
        full("5 BAD and FULL: SIZE 21", BAD, x -> x.drum(21));
        full("5 FULL", FULL, x -> x.drum(20));
        full("6 BAD and FULL: THING", BAD, x -> x.rope(40, 11, 1));
        full("6 BAD and FULL: GEAR", BAD, x -> x.rope(0, 61, 1));
        full("6 BAD and FULL: WAY", BAD, x -> x.rope(0, 13, 1));
        full("6 BAD and FULL: HOLDS", BAD, x -> x.rope(0, 11, 10000));
        full("6 FULL", FULL, x -> x.rope(39, 52, 9999));
        full("23 BAD and FULL: n 0", BAD, x -> x.feed(0, 0));
        full("23 BAD and FULL: n 5", BAD, x -> x.feed(5, 0));
        full("23 FULL", FULL, x -> x.feed(1, 0));
        full("26 BAD and FULL: 0", BAD, x -> x.candle(0));
        full("26 BAD and FULL: 301", BAD, x -> x.candle(301));
        full("26 FULL", FULL, x -> x.candle(300));
        full("30 BAD and FULL: size", BAD, x -> x.flat(100, 0));
        full("30 BAD and FULL: PAINT", BAD, x -> x.flat(101, 10));
        full("30 FULL", FULL, x -> x.flat(9999, 9));
        full("31 BAD and FULL: size", BAD, x -> x.want(100, 0));
        full("31 BAD and FULL: PAINT", BAD, x -> x.want(101, 10));
        full("31 FULL", FULL, x -> x.want(9999, 9));
    }

    private static void tie() {
        StageMachine x = new StageMachine();
        Stages.lived(x);
        CHECK.due("8 BAD (drum) and NOT (tied)", x.tie(0, 3), BAD);
        CHECK.due("8 BAD (drum) and NOT (another is tied)", x.tie(1, -1), BAD);
        CHECK.due("8 BAD (drum) and NOT (SPARE)", x.tie(5, 3), BAD);
        CHECK.due("8 BAD (drum) and NOT (gone)", x.tie(6, -1), BAD);
        CHECK.due("8 NOT", x.tie(6, 0), NOT);
    }

    private static void hold() {
        StageMachine x = new StageMachine();
        Stages.lived(x);
        for (int i = 0; i < 5; i++) {
            CHECK.due("17 BAD (it is there) and FULL", x.hold(7 * i + 1), BAD);
        }
        CHECK.due("17 FULL", x.hold(0), FULL);
    }

    private static void changeAndMen() {
        StageMachine x = new StageMachine();
        Stages.livedWithNot(x);
        CHECK.due("19 NOT", x.change(2, 200), NOT);
        CHECK.due("19 BAD (n) and NOT", x.change(2, 0), BAD);
        CHECK.due("19 BAD (n) and NOT", x.change(2, 10000), BAD);
        CHECK.due("20 BAD (what) and -2", x.told(2, 2), BAD);
        CHECK.due("20 -2", x.told(2, 1), -2);
        CHECK.due("21 BAD (what) and -2", x.work(2), BAD);
        CHECK.due("21 -2", x.work(1), -2);
        CHECK.due("22 BAD (t) and NOT", x.men(0), BAD);
        CHECK.due("22 NOT", x.men(1), NOT);
        StageMachine y = new StageMachine();
        Stages.fullWithChange(y);
        CHECK.due("22 BAD (t), NOT and BIG", y.men(0), BAD);
        CHECK.due("22 BAD (t) and BIG", y.men(100), BAD);
        CHECK.due("22 NOT and BIG", y.men(2), NOT);
        CHECK.due("22 BIG", y.men(3), BIG);
        y.scene(0, 20, y.ofThing(20, 3) + 50);
        CHECK.due("19 NOT of the 14th", y.change(0, 100), NOT);
        CHECK.due("22 NOT, though 13 were found", y.men(99), NOT);
    }

    /** A THING at 50 (MOST 52), a ROPE to the right, a DRUM of 10. */
    private static StageMachine single() {
        StageMachine x = new StageMachine();
        x.thing(50, 10, 4852, 0);
        x.drum(10);
        x.rope(0, 11, 1);
        return x;
    }

    private static void play() {
        StageMachine x = single();
        CHECK.due("24 a FAULT behind a refused LINE", Check.playText(x, "u 0;w 1 1;x"), -100 - 10);
        CHECK.due("24 a FAULT behind a STOPPED turn", Check.playText(x, "t 0 0;s 99;u"), -100 - 12);
        CHECK.due("24 nothing is PLAYED", x.count(3), 0);
        CHECK.due("24 the first of two FAULTS", Check.playText(x, "u 0,w 1 1,"), -100 - 3);
        CHECK.due("24 a refused LINE ahead of a STOPPED turn", Check.playText(x, "t 0 0;u 1;s 99;"), -1001);
        CHECK.due("24 a STOPPED turn ahead of a refused LINE", Check.playText(x, "s 99;u 1;"), STOPPED);
        CHECK.due("24 the first of two refused LINES", Check.playText(x, "s -1;u 1;u 2;"), -1001);
        CHECK.due("24 the first of two STOPPED turns", Check.playText(x, "s 99;s -99;"), STOPPED);
        CHECK.row("14 of it", new int[] {x.ofThing(0, 3), x.stopped(0)}, 52, 1);
    }

    /** Beyond MOST, on another's place, and UNEVEN, by the same step, as told. */
    private static StageMachine stops(boolean beyond, boolean meets, boolean uneven) {
        StageMachine x = new StageMachine();
        x.thing(70, 10, 90, 0);
        x.thing(80, 10, meets ? 90 : 8090, 0);
        x.thing(1500, 10, beyond ? 0 : 90, 1);
        x.drum(10);
        x.rope(0, 11, 1);
        x.rope(2, 11, 1);
        if (!meets) {
            x.rope(1, 11, 1);
            x.tie(2, 0);
        }
        x.tie(0, 0);
        x.tie(1, 0);
        if (uneven) {
            x.bound(x.pull());
        }
        return x;
    }

    private static void stopsByKind() {
        for (int mask = 1; mask < 8; mask++) {
            boolean beyond = (mask & 1) != 0;
            boolean meets = (mask & 2) != 0;
            StageMachine x = stops(beyond, meets, (mask & 4) != 0);
            CHECK.due("13 stops " + mask, x.turn(50), 9);
            int[] due = beyond ? new int[] {1, 2, -1} : meets ? new int[] {2, 0, 1} : new int[] {3, -1, -1};
            CHECK.row("14 stops " + mask, Check.stopped(x), due);
        }
        CHECK.due("13 none of them", stops(false, false, false).turn(50), 50);
    }

    /** Of several THINGS that would be beyond, the least; whatever the order of ROPES. */
    private static void stopsByThing() {
        for (int least = 0; least < 4; least++) {
            StageMachine x = new StageMachine();
            x.drum(10);
            for (int i = 0; i < 4; i++) {
                x.thing(100 * i + 50, 1, i >= least ? 5050 : 99, 0);
            }
            for (int i = 3; i >= 0; i--) {
                int rope = x.rope(i, i % 2 == 0 ? 11 : 12, 1);
                x.tie(rope, 0);
            }
            CHECK.due("13 till one would be beyond", x.turn(99), 9);
            CHECK.row("14 the least THING", Check.stopped(x), 1, least, -1);
            CHECK.due("13 and back", x.turn(-99), 18);
            CHECK.row("14 the least THING", Check.stopped(x), 1, least, -1);
        }
    }

    /** THINGS of WIDTH 1 at these places of LANE 3, all of WEIGHT 0; those with a WAY go by it. */
    private static int[] pair(int[] at, int[] way) {
        StageMachine x = new StageMachine();
        x.drum(10);
        for (int i = 0; i < at.length; i++) {
            x.thing(300 + at[i], 1, 99, 0);
            if (way[i] != 0) {
                x.tie(x.rope(i, way[i] == 1 ? 11 : 12, 1), 0);
            }
        }
        x.turn(10);
        return Check.stopped(x);
    }

    private static void stopsByPair() {
        CHECK.row("14 0 and 3 ahead of 1 and 2", pair(new int[] {50, 60, 61, 51}, new int[] {1, 1, 0, 0}), 2, 0, 3);
        CHECK.row("14 the same, the other way", pair(new int[] {51, 61, 60, 50}, new int[] {0, 0, 1, 1}), 2, 0, 3);
        CHECK.row("14 0 with 1, not with 2: it is at the right", pair(new int[] {50, 51, 49}, new int[] {0, -1, 1}), 2, 0, 1);
        CHECK.row("14 0 with 1, not with 2: it is at the left", pair(new int[] {50, 49, 51}, new int[] {0, 1, -1}), 2, 0, 1);
        CHECK.row("14 0 and 1 meet between", pair(new int[] {50, 52}, new int[] {1, -1}), 2, 0, 1);
        CHECK.row("14 1 and 2, 0 is far", pair(new int[] {10, 52, 51}, new int[] {1, 0, 1}), 2, 1, 2);
        CHECK.row("14 all three on one place: 0 with 1", pair(new int[] {51, 49, 50}, new int[] {-1, 1, 0}), 2, 0, 1);
        CHECK.row("14 they go on side by side", pair(new int[] {50, 51, 52}, new int[] {1, 1, 1}), 0, -1, -1);
        CHECK.row("14 the first of a row stands", pair(new int[] {50, 51, 52}, new int[] {1, 1, 0}), 2, 1, 2);
    }

    /** The first ROPE goes ahead of the first DRUM. */
    private static void ropesAndDrums() {
        StageMachine x = new StageMachine();
        x.thing(50, 1, 99, 0);
        x.rope(0, 21, 1);
        x.rope(0, 11, 1);
        x.drum(10);
        x.drum(20);
        x.drum(20);
        x.scene(0, 0, 60);
        CHECK.row("20 ROPE 0 by DRUM 1, not ROPE 1 by DRUM 0", new int[] {x.change(0, 100), x.told(0, 0), x.told(0, 1)}, 1, 0, 1);
        x.scene(1, 0, 55);
        CHECK.row("20 ROPE 0 by DRUM 0", new int[] {x.change(1, 100), x.told(0, 0), x.told(0, 1)}, 1, 0, 0);
        x.scene(2, 0, 70);
        CHECK.row("20 ROPE 1 by DRUM 1", new int[] {x.change(2, 100), x.told(0, 0), x.told(0, 1)}, 1, 1, 1);
        x.thing(150, 1, 99, 0);
        x.thing(250, 1, 99, 0);
        x.scene(0, 1, 60);
        x.scene(0, 2, 60);
        CHECK.row("20 the least THING that has none", new int[] {x.change(0, 100), x.told(0, 0), x.told(1, 0), x.told(1, 1),
            x.told(2, 0)}, NOT, 0, -2, -2, -1);
        x.rope(1, 11, 1);
        CHECK.row("20 the next one", new int[] {x.change(0, 100), x.told(1, 0), x.told(1, 1), x.told(2, 0), x.told(2, 1)},
            NOT, 2, 0, -2, -2);
    }

    private static void flats() {
        StageMachine x = new StageMachine();
        for (int i = 0; i < 3; i++) {
            x.flat(505, 0);
        }
        x.want(505, 0);
        x.want(404, 0);
        x.want(303, 0);
        CHECK.row("33 the lesser FLAT by wants", new int[] {x.paint(), x.given(0), x.given(1), x.given(2)}, 9 + 16, 0, 1, 2);
        StageMachine y = new StageMachine();
        y.flat(505, 1);
        y.flat(505, 0);
        y.flat(505, 0);
        y.want(505, 0);
        y.want(505, 1);
        CHECK.row("33 the least sum ahead of the lesser FLAT", new int[] {y.paint(), y.given(0), y.given(1)}, 0, 1, 0);
        y.want(505, 2);
        y.want(505, 0);
        CHECK.row("33 the first want first", new int[] {y.paint(), y.given(0), y.given(1)}, 25, 0, 1);
        y.want(505, 0);
        y.want(505, 2);
        CHECK.row("33 the first want first, the other way", new int[] {y.paint(), y.given(0), y.given(1)}, 25, 1, 0);
        y.want(505, 2);
        y.want(505, 2);
        y.want(505, 2);
        CHECK.row("33 all alike", new int[] {y.paint(), y.given(0), y.given(1), y.given(2)}, 75, 0, 1, 2);
    }
}
