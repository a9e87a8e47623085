/** Stages in several states, for tests that look at what a call leaves as it is. */
final class Stages {
    private Stages() {
    }

    /**
     * A bit of all: THINGS 0 .. 3, DRUMS 0 .. 2, ROPES 0 .. 6 (0 and 3 TIED, 5
     * too weak, 6 gone), weights, catches, scenes, a change that was found,
     * candles, flats, two wants, a CUE that can be taken BACK, and a LINE on THE
     * TAPE that lacks its end.
     */
    static void lived(StageMachine x) {
        x.thing(20, 10, 60, 40);
        x.thing(50, 5, 3095, 7);
        x.thing(145, 5, 95, 7);
        x.thing(1599, 1, 99, 999);
        x.drum(10);
        x.drum(5);
        x.drum(1);
        x.rope(0, 11, 50);
        x.rope(0, 22, 30);
        x.rope(1, 12, 99);
        x.rope(2, 31, 9);
        x.rope(3, 51, 200);
        x.rope(3, 11, 998);
        x.rope(2, 12, 99);
        x.tie(6, 0);
        x.turn(33);
        x.snap(6);
        x.tie(0, 0);
        x.tie(3, 2);
        x.weight(3, -50);
        x.weight(19, 77);
        x.bound(5000);
        for (int i = 0; i < 5; i++) {
            x.hold(7 * i + 1);
        }
        x.hold(150);
        x.hold(199);
        x.scene(0, 0, 30);
        x.scene(0, 3, 99);
        x.scene(1, 2, 50);
        x.scene(9, 1, 95);
        x.change(0, 100);
        x.turn(9999);
        timesAndStock(x);
        Check.playText(x, "w 5 9;s -7;t 2 1;u 3;");
        Check.feedText(x, "w 6 1");
    }

    private static void timesAndStock(StageMachine x) {
        x.candle(30);
        x.candle(10);
        x.minutes(12);
        x.candle(300);
        x.flat(1010, 1);
        x.flat(1220, 2);
        x.flat(1010, 2);
        x.flat(2020, 1);
        x.want(505, 2);
        x.want(1010, 2);
        x.paint();
        x.want(1010, 1);
        x.want(1220, 1);
    }

    /** lived(), with a change that was NOT. */
    static void livedWithNot(StageMachine x) {
        lived(x);
        x.scene(2, 1, 40);
        x.scene(2, 2, 95);
        x.change(2, 200);
    }

    /** Nothing more can be made, THE TAPE and THE LIST are full, and TIME is at its end. */
    static void full(StageMachine x) {
        for (int i = 0; i < 40; i++) {
            x.thing(100 * (i / 6) + 15 * (i % 6), 2, 98, i);
            x.rope(i, 11, 40);
        }
        for (int i = 0; i < 20; i++) {
            x.drum(i + 1);
        }
        for (int i = 0; i < 10; i++) {
            x.minutes(i < 9 ? 1000 : 999);
        }
        for (int i = 0; i < 60; i++) {
            x.candle(5 * i + 5);
        }
        for (int i = 0; i < 12; i++) {
            x.flat(1010 + 101 * i, i % 10);
        }
        for (int i = 0; i < 6; i++) {
            x.want(505, i);
        }
        Check.feedText(x, "w 5 77;".repeat(17) + "w");
    }

    /** full(), with 13 works in the latest change. */
    static void fullWithChange(StageMachine x) {
        full(x);
        for (int i = 0; i < 13; i++) {
            x.scene(0, i, x.ofThing(i, 3) + 1);
        }
        x.change(0, 100);
    }
}
