/** Promises 26 to 34: candles, stock, and how many there are. */
public final class CandleStockTest {
    private static final Check CHECK = new Check("CandleStockTest");

    public static void main(String[] args) {
        candles();
        minutes();
        trim();
        light();
        flats();
        wants();
        paint();
        paintTies();
        paintNoWay();
        given();
        count();
        CHECK.end();
    }

    private static void candles() {
        StageMachine x = new StageMachine();
        CHECK.due("26 none", x.candle(0), StageMachine.BAD);
        CHECK.due("26 too long", x.candle(301), StageMachine.BAD);
        CHECK.due("26 below", x.candle(-1), StageMachine.BAD);
        CHECK.due("26 shortest", x.candle(1), 0);
        CHECK.due("26 longest", x.candle(300), 1);
        x.minutes(1);
        for (int i = 2; i < 60; i++) {
            CHECK.due("26 candle " + i, x.candle(7), i);
        }
        CHECK.due("26 full, though one is out", x.candle(7), StageMachine.FULL);
        CHECK.due("26 BAD ahead of FULL", x.candle(0), StageMachine.BAD);
        CHECK.due("26 count", x.count(6), 60);
        CHECK.row("29 of sixty", new int[] {x.light(0), x.light(1), x.light(2)}, 1, 59, 7);
        CHECK.due("28 of sixty", x.trim(7), 58);
    }

    private static void minutes() {
        StageMachine x = new StageMachine();
        CHECK.due("27 none", x.minutes(0), StageMachine.BAD);
        CHECK.due("27 below", x.minutes(-5), StageMachine.BAD);
        CHECK.due("27 too many", x.minutes(1001), StageMachine.BAD);
        CHECK.due("27 most", x.minutes(1000), 1000);
        for (int i = 2; i <= 9; i++) {
            CHECK.due("27 thousands", x.minutes(1000), 1000 * i);
        }
        CHECK.due("27 beyond", x.minutes(1000), StageMachine.BAD);
        CHECK.due("27 nothing came of it", x.count(5), 9000);
        CHECK.due("27 till the end", x.minutes(999), 9999);
        CHECK.due("27 beyond by one", x.minutes(1), StageMachine.BAD);
        CHECK.due("27 TIME", x.count(5), 9999);
        CHECK.due("26 at the end", x.candle(300), 0);
        CHECK.due("29 burns", x.light(2), 300);
    }

    private static void trim() {
        StageMachine x = new StageMachine();
        x.candle(10);
        x.candle(20);
        x.candle(30);
        x.minutes(10);
        CHECK.due("28 below", x.trim(-1), StageMachine.BAD);
        CHECK.due("28 above", x.trim(301), StageMachine.BAD);
        CHECK.due("28 k 0 takes none", x.trim(0), 0);
        CHECK.due("28 none so short", x.trim(9), 0);
        CHECK.due("28 just so many left", x.trim(10), 1);
        CHECK.due("28 as long as at first", x.light(2), 20);
        CHECK.due("28 the burnt out one stays out", x.light(0), 1);
        x.minutes(15);
        CHECK.due("29 they differ", x.light(2), 5);
        CHECK.due("28 all that burn", x.trim(300), 2);
        CHECK.due("29 the next", x.light(2), 20);
        x.minutes(20);
        CHECK.due("29 dark", x.light(0), 2);
        CHECK.due("29 of the last", x.light(2), 10);
        x.minutes(9);
        CHECK.due("28 with its last minute", x.trim(1), 1);
        CHECK.due("29 anew", x.light(2), 30);
        StageMachine y = new StageMachine();
        y.candle(300);
        CHECK.due("28 just lit, all its minutes left", y.trim(300), 1);
        CHECK.due("28 one less", y.trim(299), 0);
    }

    private static void light() {
        StageMachine x = new StageMachine();
        CHECK.row("29 none", new int[] {x.light(0), x.light(1), x.light(2)}, 0, 0, -1);
        x.candle(5);
        x.minutes(2);
        x.candle(4);
        x.candle(2);
        CHECK.row("29 all burn", new int[] {x.light(0), x.light(1), x.light(2)}, 0, 3, 2);
        x.minutes(1);
        CHECK.row("29 one left", new int[] {x.light(0), x.light(1), x.light(2)}, 0, 3, 1);
        x.minutes(1);
        CHECK.row("29 one is out", new int[] {x.light(0), x.light(1), x.light(2)}, 1, 2, 1);
        x.minutes(2);
        CHECK.row("29 all are out", new int[] {x.light(0), x.light(1), x.light(2)}, 3, 0, -1);
        CHECK.due("29 what 3", x.light(3), StageMachine.BAD);
        CHECK.due("29 what -1", x.light(-1), StageMachine.BAD);
    }

    private static final int[][] BAD_PANELS = {{0, 0}, {1, 0}, {99, 0}, {100, 0}, {200, 0}, {10000, 0}, {10001, 0},
        {-101, 0}, {101, -1}, {101, 10}, {Integer.MAX_VALUE, 0}, {Integer.MIN_VALUE, 0}};

    private static void flats() {
        StageMachine x = new StageMachine();
        for (int[] b : BAD_PANELS) {
            CHECK.due("30 bad " + b[0] + " " + b[1], x.flat(b[0], b[1]), StageMachine.BAD);
        }
        CHECK.due("30 least", x.flat(101, 0), 0);
        CHECK.due("30 most", x.flat(9999, 9), 1);
        for (int i = 2; i < 12; i++) {
            CHECK.due("30 flat " + i, x.flat(505, 5), i);
        }
        CHECK.due("30 full", x.flat(101, 0), StageMachine.FULL);
        CHECK.due("30 BAD ahead of FULL", x.flat(100, 0), StageMachine.BAD);
        CHECK.due("30 count", x.count(7), 12);
    }

    private static void wants() {
        StageMachine x = new StageMachine();
        for (int[] b : BAD_PANELS) {
            CHECK.due("31 bad " + b[0] + " " + b[1], x.want(b[0], b[1]), StageMachine.BAD);
        }
        for (int i = 1; i <= 6; i++) {
            CHECK.due("31 want " + i, x.want(i % 2 == 0 ? 101 : 9999, i), i);
        }
        CHECK.due("31 full", x.want(101, 0), StageMachine.FULL);
        CHECK.due("31 BAD ahead of FULL", x.want(101, 10), StageMachine.BAD);
        CHECK.due("32 no flat", x.paint(), StageMachine.NOT);
        CHECK.due("31 the list is empty then", x.want(101, 0), 1);
    }

    private static void paint() {
        StageMachine x = new StageMachine();
        x.flat(1010, 1);
        CHECK.due("32 no want", x.paint(), StageMachine.NOT);
        x.want(1010, 1);
        CHECK.due("32 the same", x.paint(), 0);
        x.want(1010, 2);
        CHECK.due("32 painted", x.paint(), 100);
        x.want(908, 1);
        CHECK.due("32 cut", x.paint(), 100 - 72);
        x.want(908, 2);
        CHECK.due("32 painted and cut", x.paint(), 100 + 100 - 72);
        x.want(1011, 1);
        CHECK.due("32 too narrow", x.paint(), StageMachine.NOT);
        x.want(1110, 1);
        CHECK.due("32 too low", x.paint(), StageMachine.NOT);
        x.want(101, 1);
        x.want(101, 1);
        CHECK.due("32 each gets another", x.paint(), StageMachine.NOT);
        CHECK.due("33 of the latest with a way", x.given(0), 0);

        StageMachine y = new StageMachine();
        y.flat(1010, 2);
        y.flat(1110, 1);
        y.want(1010, 1);
        y.want(1110, 1);
        CHECK.due("32 not the nearest for the first", y.paint(), 100);
        CHECK.row("33 given", new int[] {y.given(0), y.given(1)}, 0, 1);
        y.want(1010, 1);
        CHECK.due("32 cut is cheaper than paint", y.paint(), 10);
        CHECK.due("33 given", y.given(0), 1);
        CHECK.due("33 that list had one", y.given(1), StageMachine.BAD);
    }

    private static void paintTies() {
        StageMachine x = new StageMachine();
        for (int i = 0; i < 12; i++) {
            x.flat(505, i % 2);
        }
        for (int i = 0; i < 6; i++) {
            x.want(505, i < 3 ? 1 : 2);
        }
        CHECK.due("32 three are painted", x.paint(), 75);
        CHECK.row("33 the first of several", new int[] {x.given(0), x.given(1), x.given(2), x.given(3), x.given(4),
            x.given(5)}, 1, 3, 5, 0, 2, 4);
        CHECK.due("33 no seventh", x.given(6), StageMachine.BAD);

        StageMachine y = new StageMachine();
        y.flat(205, 0);
        y.flat(205, 0);
        y.flat(502, 0);
        y.want(202, 0);
        y.want(502, 0);
        y.want(101, 0);
        CHECK.due("32 sum", y.paint(), 6 + 0 + 9);
        CHECK.row("33 the first by wants", new int[] {y.given(0), y.given(1), y.given(2)}, 0, 2, 1);
    }

    private static void paintNoWay() {
        StageMachine x = new StageMachine();
        x.flat(9999, 0);
        x.flat(9999, 1);
        x.want(9999, 2);
        x.want(9999, 2);
        CHECK.due("32 dearest", x.paint(), 2 * 9801);
        x.want(101, 2);
        x.want(101, 2);
        x.want(101, 2);
        CHECK.due("32 more wants than flats", x.paint(), StageMachine.NOT);
        CHECK.due("32 and then none", x.paint(), StageMachine.NOT);
        CHECK.row("33 of the latest with a way", new int[] {x.given(0), x.given(1), x.given(2)}, 0, 1, StageMachine.BAD);
        for (int i = 2; i < 12; i++) {
            x.flat(9999, 0);
        }
        for (int i = 0; i < 6; i++) {
            x.want(101, 5);
        }
        CHECK.due("32 dearest of all", x.paint(), 6 * (2 * 9801 - 1));
    }

    private static void given() {
        StageMachine x = new StageMachine();
        CHECK.due("33 before any", x.given(0), StageMachine.BAD);
        x.flat(202, 0);
        x.flat(101, 0);
        x.want(101, 0);
        x.want(202, 0);
        CHECK.due("33 before paint", x.given(0), StageMachine.BAD);
        CHECK.due("32 sum", x.paint(), 0);
        CHECK.row("33 given", new int[] {x.given(0), x.given(1)}, 1, 0);
        CHECK.due("33 -1", x.given(-1), StageMachine.BAD);
        CHECK.due("33 2", x.given(2), StageMachine.BAD);
        x.want(101, 0);
        CHECK.due("33 a new want changes nothing", x.given(1), 0);
    }

    private static void count() {
        StageMachine x = new StageMachine();
        x.thing(50, 5, 95, 1);
        x.thing(150, 5, 95, 1);
        x.drum(1);
        x.drum(2);
        x.drum(3);
        x.rope(0, 11, 9);
        x.rope(1, 11, 9);
        x.rope(1, 12, 9);
        x.rope(1, 12, 9);
        x.tie(0, 0);
        x.tie(1, 0);
        x.snap(1);
        x.turn(-30);
        x.turn(7);
        x.minutes(8);
        for (int i = 0; i < 6; i++) {
            x.candle(5);
        }
        for (int i = 0; i < 7; i++) {
            x.flat(101, 0);
        }
        x.feed(3, 0);
        CHECK.row("34 counts", Check.counts(x), 2, 3, 4, 1, -23, 8, 6, 7, 3, 37);
        CHECK.due("34 what 10", x.count(10), StageMachine.VOID);
        CHECK.due("34 what -1", x.count(-1), StageMachine.VOID);
    }
}
