/** Promises 1 to 12: what there is. */
public final class StageTest {
    private static final Check CHECK = new Check("StageTest");

    public static void main(String[] args) {
        newObject();
        things();
        thingsRefused();
        ofThing();
        on();
        drums();
        ropes();
        ofRope();
        tie();
        untie();
        weights();
        bound();
        pull();
        fullStage();
        CHECK.end();
    }

    private static void newObject() {
        StageMachine x = new StageMachine();
        CHECK.row("1 counts", Check.counts(x), 0, 0, 0, 0, 0, 0, 0, 0, 0, 0);
        CHECK.row("1 stopped", Check.stopped(x), 0, -1, -1);
        CHECK.due("1 pull", x.pull(), 0);
        CHECK.due("1 on", x.on(0), StageMachine.NOT);
        CHECK.due("1 ofThing", x.ofThing(0, 0), -2);
        CHECK.due("1 ofRope", x.ofRope(0, 0), StageMachine.VOID);
        CHECK.due("1 bound", x.bound(0), 99999);
        CHECK.due("1 light", x.light(2), -1);
        CHECK.due("1 told", x.told(0, 0), StageMachine.BAD);
        CHECK.due("1 work", x.work(0), StageMachine.BAD);
        CHECK.due("1 men", x.men(5), StageMachine.BAD);
        CHECK.due("1 back", x.back(), StageMachine.NOT);
        CHECK.due("1 given", x.given(0), StageMachine.BAD);
        for (int i = 0; i < 20; i++) {
            CHECK.due("1 weight " + i, x.weight(i, 0), 0);
        }
        x.thing(0, 1, 99, 1);
        CHECK.due("1 objects are apart", new StageMachine().count(0), 0);
    }

    private static void things() {
        StageMachine x = new StageMachine();
        CHECK.due("2 first", x.thing(20, 10, 1030, 5), 0);
        CHECK.due("2 just left", x.thing(10, 10, 30, 5), 1);
        CHECK.due("2 just right", x.thing(30, 10, 90, 5), 2);
        CHECK.due("2 same place, other lane", x.thing(120, 10, 1030, 5), 3);
        CHECK.due("2 overlaps by one at the left", x.thing(1, 10, 90, 5), StageMachine.NOT);
        CHECK.due("2 overlaps by one at the right", x.thing(39, 10, 90, 5), StageMachine.NOT);
        CHECK.due("2 around another", x.thing(115, 20, 80, 5), StageMachine.NOT);
        CHECK.due("2 inside another", x.thing(125, 1, 80, 5), StageMachine.NOT);
        CHECK.due("2 nothing came of it", x.count(0), 4);
        CHECK.due("2 widest, heaviest", x.thing(1540, 60, 40, 999), 4);
        CHECK.due("2 lightest", x.thing(299, 1, 9999, 0), 5);
        CHECK.due("2 it can't go", x.thing(600, 60, 0, 0), 6);

        StageMachine y = new StageMachine();
        for (int i = 0; i < 40; i++) {
            CHECK.due("2 thing " + i, y.thing(i, 1, 99, 1), i);
        }
        CHECK.due("2 full", y.thing(40, 1, 99, 1), StageMachine.FULL);
        CHECK.due("2 NOT ahead of FULL", y.thing(0, 1, 99, 1), StageMachine.NOT);
        CHECK.due("2 BAD ahead of NOT", y.thing(0, 0, 99, 1), StageMachine.BAD);
        CHECK.due("2 count", y.count(0), 40);
    }

    private static void thingsRefused() {
        StageMachine x = new StageMachine();
        int[][] bad = {
            {-1, 10, 90, 1}, {-100, 10, 90, 1}, {1600, 10, 90, 1}, {0, 0, 90, 1}, {0, -1, 90, 1},
            {0, 61, 30, 1}, {0, 10, 91, 1}, {41, 60, 41, 1}, {0, 10, 90, -1}, {0, 10, 90, 1000},
            {5, 10, 690, 1}, {5, 10, 4, 1}, {5, 10, 604, 1}, {5, 10, -1, 1}, {0, 10, -100, 1},
            {0, 10, 10090, 1}, {0, 10, Integer.MAX_VALUE, 1}, {0, 10, Integer.MIN_VALUE, 1},
            {Integer.MIN_VALUE, 10, 90, 1}, {Integer.MAX_VALUE, 10, 90, 1}, {0, Integer.MAX_VALUE, 90, 1}};
        for (int[] b : bad) {
            CHECK.due("2 bad " + b[0] + " " + b[1] + " " + b[2] + " " + b[3],
                x.thing(b[0], b[1], b[2], b[3]), StageMachine.BAD);
        }
        CHECK.due("2 none was made", x.count(0), 0);
    }

    private static void ofThing() {
        StageMachine x = new StageMachine();
        x.thing(1, 1, 99, 0);
        x.thing(720, 9, 1580, 333);
        x.drum(20);
        x.rope(0, 11, 1);
        x.rope(1, 31, 200);
        CHECK.row("3 not tied", Check.ofThing(x, 1), 7, 9, 333, 20, 15, 80, -1, -1);
        x.tie(1, 0);
        x.turn(30);
        CHECK.row("3 tied", Check.ofThing(x, 1), 7, 9, 333, 22, 15, 80, 1, 20);
        CHECK.row("3 the other", Check.ofThing(x, 0), 0, 1, 0, 1, 0, 99, -1, -1);
        x.untie(1);
        x.tie(1, 0);
        CHECK.due("3 tied anew", x.ofThing(1, 7), 22);
        CHECK.due("3 what 8", x.ofThing(0, 8), -2);
        CHECK.due("3 what -1", x.ofThing(0, -1), -2);
        CHECK.due("3 thing 2", x.ofThing(2, 0), -2);
        CHECK.due("3 thing -1", x.ofThing(-1, 0), -2);
        CHECK.due("3 far", x.ofThing(Integer.MAX_VALUE, 0), -2);
    }

    private static void on() {
        StageMachine x = new StageMachine();
        x.thing(110, 5, 95, 1);
        x.thing(210, 5, 95, 1);
        x.thing(1599, 1, 99, 1);
        CHECK.due("4 ahead", x.on(209), StageMachine.NOT);
        CHECK.due("4 left end", x.on(210), 1);
        CHECK.due("4 right end", x.on(214), 1);
        CHECK.due("4 behind", x.on(215), StageMachine.NOT);
        CHECK.due("4 other lane", x.on(110), 0);
        CHECK.due("4 no thing in the lane", x.on(10), StageMachine.NOT);
        CHECK.due("4 last place", x.on(1599), 2);
        CHECK.due("4 beyond", x.on(1600), StageMachine.BAD);
        CHECK.due("4 below", x.on(-1), StageMachine.BAD);
        CHECK.due("4 far below", x.on(Integer.MIN_VALUE), StageMachine.BAD);
        x.drum(10);
        x.rope(0, 11, 9);
        x.tie(0, 0);
        x.turn(10);
        CHECK.due("4 gone on", x.on(110), StageMachine.NOT);
        CHECK.due("4 where it went", x.on(115), 0);
    }

    private static void drums() {
        StageMachine x = new StageMachine();
        CHECK.due("5 size 0", x.drum(0), StageMachine.BAD);
        CHECK.due("5 size 21", x.drum(21), StageMachine.BAD);
        CHECK.due("5 size -5", x.drum(-5), StageMachine.BAD);
        for (int i = 0; i < 20; i++) {
            CHECK.due("5 drum " + i, x.drum(i + 1), i);
        }
        CHECK.due("5 full", x.drum(1), StageMachine.FULL);
        CHECK.due("5 BAD ahead of FULL", x.drum(0), StageMachine.BAD);
        CHECK.due("5 count", x.count(1), 20);
    }

    private static void ropes() {
        StageMachine x = new StageMachine();
        CHECK.due("6 no thing", x.rope(0, 11, 1), StageMachine.BAD);
        x.thing(0, 1, 99, 7);
        int[][] bad = {{1, 11, 1}, {-1, 11, 1}, {0, 10, 1}, {0, 13, 1}, {0, 1, 1}, {0, 61, 1}, {0, 2, 1},
            {0, -11, 1}, {0, 11, 0}, {0, 11, 10000}, {0, 11, -1}, {0, 111, 1}, {0, Integer.MAX_VALUE, 1}};
        for (int[] b : bad) {
            CHECK.due("6 bad " + b[0] + " " + b[1] + " " + b[2], x.rope(b[0], b[1], b[2]), StageMachine.BAD);
        }
        CHECK.due("6 gear 1", x.rope(0, 11, 1), 0);
        CHECK.due("6 gear 5", x.rope(0, 52, 9999), 1);
        for (int i = 2; i < 40; i++) {
            CHECK.due("6 rope " + i, x.rope(0, 21, 5), i);
        }
        CHECK.due("6 full", x.rope(0, 11, 1), StageMachine.FULL);
        CHECK.due("6 BAD ahead of FULL", x.rope(1, 11, 1), StageMachine.BAD);
        CHECK.due("6 count", x.count(2), 40);
    }

    private static void ofRope() {
        StageMachine x = new StageMachine();
        x.thing(0, 1, 99, 1);
        x.thing(150, 1, 99, 7);
        x.drum(1);
        x.drum(3);
        x.rope(0, 11, 9999);
        x.rope(1, 32, 50);
        CHECK.row("7 not tied: load is 7 / 3, up", Check.ofRope(x, 1), 1, 3, -1, 50, 3, -1, 0, 0);
        x.tie(1, 1);
        x.turn(-40);
        CHECK.row("7 tied", Check.ofRope(x, 1), 1, 3, -1, 50, 3, 1, -120, 0);
        CHECK.row("7 the other", Check.ofRope(x, 0), 0, 1, 1, 9999, 1, -1, 0, 0);
        x.untie(1);
        CHECK.row("7 untied", Check.ofRope(x, 1), 1, 3, -1, 50, 3, -1, 0, 0);
        x.tie(1, 0);
        x.turn(5);
        x.snap(1);
        CHECK.row("7 gone", Check.ofRope(x, 1), 1, 3, -1, 50, 3, -1, 0, 1);
        CHECK.due("7 what 8", x.ofRope(0, 8), StageMachine.VOID);
        CHECK.due("7 what -1", x.ofRope(0, -1), StageMachine.VOID);
        CHECK.due("7 rope 2", x.ofRope(2, 0), StageMachine.VOID);
        CHECK.due("7 rope -1", x.ofRope(-1, 0), StageMachine.VOID);
    }

    private static void tie() {
        StageMachine x = new StageMachine();
        x.thing(50, 1, 99, 10);
        x.thing(150, 1, 99, 10);
        x.drum(4);
        x.rope(0, 31, 4);
        x.rope(0, 31, 3);
        x.rope(0, 11, 99);
        x.rope(1, 51, 9);
        CHECK.due("8 no such drum", x.tie(0, 1), StageMachine.BAD);
        CHECK.due("8 drum -1", x.tie(0, -1), StageMachine.BAD);
        CHECK.due("8 no such rope", x.tie(4, 0), StageMachine.BAD);
        CHECK.due("8 rope -1", x.tie(-1, 0), StageMachine.BAD);
        CHECK.due("8 spare below 0", x.tie(1, 0), StageMachine.NOT);
        CHECK.due("8 spare just 0", x.tie(0, 0), 0);
        CHECK.due("8 tied already", x.tie(0, 0), StageMachine.NOT);
        CHECK.due("8 another is tied", x.tie(2, 0), StageMachine.NOT);
        CHECK.due("8 one drum, many ropes", x.tie(3, 0), 7);
        CHECK.due("8 tied ones", x.count(3), 2);
        x.turn(100);
        x.untie(0);
        CHECK.due("8 free again", x.tie(2, 0), 89);
        CHECK.due("8 DONE begins at 0", x.ofRope(2, 6), 0);
        x.snap(2);
        CHECK.due("8 gone", x.tie(2, 0), StageMachine.NOT);
        CHECK.due("8 BAD ahead of NOT", x.tie(2, 7), StageMachine.BAD);
        CHECK.due("8 the other still serves", x.tie(0, 0), 0);
    }

    private static void untie() {
        StageMachine x = new StageMachine();
        x.thing(50, 1, 99, 10);
        x.drum(7);
        x.rope(0, 11, 99);
        CHECK.due("9 not tied", x.untie(0), StageMachine.VOID);
        x.tie(0, 0);
        CHECK.due("9 at once", x.untie(0), 0);
        x.tie(0, 0);
        x.turn(-30);
        CHECK.due("9 below 0", x.untie(0), -210);
        CHECK.due("9 it stays where it is", x.ofThing(0, 3), 48);
        x.turn(50);
        CHECK.due("9 and does not go on", x.ofThing(0, 3), 48);
        CHECK.due("9 no more tied", x.count(3), 0);
        CHECK.due("9 twice", x.untie(0), StageMachine.VOID);
        CHECK.due("9 no such rope", x.untie(1), StageMachine.VOID);
        CHECK.due("9 rope -1", x.untie(-1), StageMachine.VOID);
    }

    private static void weights() {
        StageMachine x = new StageMachine();
        CHECK.due("10 first", x.weight(0, 9999), 0);
        CHECK.due("10 again", x.weight(0, -9999), 9999);
        CHECK.due("10 last", x.weight(19, 5), 0);
        CHECK.due("10 what it was", x.weight(0, 1), -9999);
        CHECK.due("10 all together", x.pull(), 6);
        CHECK.due("10 i 20", x.weight(20, 0), StageMachine.VOID);
        CHECK.due("10 i -1", x.weight(-1, 0), StageMachine.VOID);
        CHECK.due("10 v 10000", x.weight(0, 10000), StageMachine.VOID);
        CHECK.due("10 v -10000", x.weight(0, -10000), StageMachine.VOID);
        CHECK.due("10 nothing came of it", x.pull(), 6);
    }

    private static void bound() {
        StageMachine x = new StageMachine();
        CHECK.due("11 at first", x.bound(5), 99999);
        CHECK.due("11 least", x.bound(0), 5);
        CHECK.due("11 most", x.bound(99999), 0);
        CHECK.due("11 below", x.bound(-1), StageMachine.BAD);
        CHECK.due("11 above", x.bound(100000), StageMachine.BAD);
        CHECK.due("11 as it was", x.bound(7), 99999);
        x.weight(0, 50);
        CHECK.due("11 less than PULL", x.bound(49), 7);
        CHECK.due("11 no step then", x.turn(3), 0);
        x.bound(50);
        CHECK.due("11 just as much", x.turn(3), 3);
    }

    private static void pull() {
        StageMachine x = new StageMachine();
        x.thing(50, 1, 99, 10);
        x.thing(150, 1, 99, 11);
        x.drum(7);
        x.rope(0, 31, 99);
        x.rope(1, 22, 99);
        CHECK.due("12 none tied", x.pull(), 0);
        x.tie(0, 0);
        CHECK.due("12 70 / 3", x.pull(), 23);
        x.tie(1, 0);
        CHECK.due("12 and - 77 / 2", x.pull(), 23 - 38);
        x.turn(100);
        CHECK.row("12 where they are", new int[] {x.ofThing(0, 3), x.ofThing(1, 3)}, 52, 47);
        CHECK.due("12 with the places gone", x.pull(), 23 - 38 + 10 * 2 - 11 * 3);
        x.weight(4, -100);
        CHECK.due("12 with a counterweight", x.pull(), 23 - 38 + 20 - 33 - 100);
        x.untie(0);
        CHECK.due("12 without a rope", x.pull(), -38 - 33 - 100);
        x.tie(0, 0);
        CHECK.due("12 tied anew", x.pull(), 23 - 38 - 33 - 100);
    }

    /** The number behind the last one is looked at where there is no room for it. */
    private static void fullStage() {
        StageMachine x = new StageMachine();
        for (int i = 0; i < 40; i++) {
            x.thing(i, 1, 99, 1);
            x.rope(i, 11, 1);
        }
        for (int i = 0; i < 20; i++) {
            x.drum(1);
        }
        CHECK.due("3 thing 40", x.ofThing(40, 0), -2);
        CHECK.due("3 thing 39", x.ofThing(39, 3), 39);
        CHECK.due("6 thing 40", x.rope(40, 11, 1), StageMachine.BAD);
        CHECK.due("7 rope 40", x.ofRope(40, 0), StageMachine.VOID);
        CHECK.due("8 rope 40", x.tie(40, 0), StageMachine.BAD);
        CHECK.due("8 drum 20", x.tie(0, 20), StageMachine.BAD);
        CHECK.due("8 drum 19", x.tie(39, 19), 0);
        CHECK.due("9 rope 40", x.untie(40), StageMachine.VOID);
        CHECK.due("16 rope 40", x.snap(40), StageMachine.BAD);
        CHECK.due("18 thing 40", x.scene(0, 40, 0), -2);
        CHECK.due("19 change", x.change(0, 1), 0);
        CHECK.due("20 thing 40", x.told(40, 0), StageMachine.BAD);
        CHECK.due("20 thing 39", x.told(39, 0), -1);
        CHECK.due("13 turn", x.turn(100), 100);
        CHECK.due("13 the last goes on", x.ofThing(39, 3), 40);
        x.tie(37, 19);
        CHECK.due("13 not on another's place", x.turn(100), 99);
        CHECK.row("14 stopped", Check.stopped(x), 2, 37, 38);
    }
}
