/** Promises 23 to 25: cues. */
public final class CueTest {
    private static final Check CHECK = new Check("CueTest");

    public static void main(String[] args) {
        feed();
        play();
        lines();
        refusedLines();
        stoppedLines();
        stoppedByTheLatestTurn();
        faults();
        longTapes();
        back();
        backOfTies();
        backEnds();
        backEndsByTheFirst();
        backStays();
        backOfTheLast();
        CHECK.end();
    }

    private static void feed() {
        StageMachine x = new StageMachine();
        CHECK.due("23 n 0", x.feed(0, 59), StageMachine.BAD);
        CHECK.due("23 n 5", x.feed(5, 59), StageMachine.BAD);
        CHECK.due("23 n -1", x.feed(-1, 59), StageMachine.BAD);
        CHECK.due("23 lowest first", x.feed(2, 's' | ' ' << 8 | 'x' << 16), 2);
        CHECK.due("23 one", x.feed(1, '1'), 3);
        CHECK.due("23 the rest of v does not count", x.feed(1, ';' | -256), 4);
        CHECK.due("23 count", x.count(8), 4);
        CHECK.due("24 as fed", x.play(), 1);
        CHECK.due("24 the shaft", x.count(4), 1);
        CHECK.due("23 the tape is empty", x.count(8), 0);
        for (int i = 1; i <= 29; i++) {
            CHECK.due("23 four at a time", x.feed(4, -1), 4 * i);
        }
        CHECK.due("23 three more", x.feed(3, -1), 119);
        CHECK.due("23 full", x.feed(2, 0), StageMachine.FULL);
        CHECK.due("23 BAD ahead of FULL", x.feed(5, 0), StageMachine.BAD);
        CHECK.due("23 nothing came of it", x.count(8), 119);
        CHECK.due("23 the last byte", x.feed(1, 0), 120);
        CHECK.due("23 full for one", x.feed(1, 0), StageMachine.FULL);
        CHECK.due("24 byte 255", x.play(), -100);
        CHECK.due("23 empty after a FAULT", x.count(8), 0);
    }

    /** THINGS 0 and 1 at 50 of LANES 0 and 1, a DRUM of 10, ROPES 0 and 1 to the right, 2 (of THING 0) too weak. */
    private static StageMachine two() {
        StageMachine x = new StageMachine();
        x.thing(50, 5, 95, 10);
        x.thing(150, 5, 95, 10);
        x.drum(10);
        x.rope(0, 11, 99);
        x.rope(1, 11, 99);
        x.rope(0, 11, 1);
        return x;
    }

    private static void play() {
        StageMachine x = two();
        CHECK.due("24 a cue", Check.playText(x, "t 0 0;s 20;w 3 -7;t 1 0;s -10;u 0;s 30;"), 7);
        CHECK.due("24 thing 0", x.ofThing(0, 3), 51);
        CHECK.due("24 thing 1", x.ofThing(1, 3), 52);
        CHECK.due("24 rope 0", x.ofRope(0, 5), -1);
        CHECK.due("24 rope 1", x.ofRope(1, 6), 200);
        CHECK.due("24 shaft", x.count(4), 40);
        CHECK.due("24 wear", x.count(9), 60);
        CHECK.due("24 weight", x.weight(3, 0), -7);
        CHECK.due("24 the tape is empty", x.play(), -100);
    }

    private static void lines() {
        StageMachine x = two();
        CHECK.due("24 leading zeros", Check.playText(x, "t 0000 00;s 010;"), 2);
        CHECK.due("24 shaft", x.count(4), 10);
        CHECK.due("24 minus zero", Check.playText(x, "s -0;w 0 -0;"), 2);
        CHECK.due("24 far numbers", Check.playText(x, "w 19 9999;w 0 -9999;"), 2);
        CHECK.due("24 weight 19", x.weight(19, 0), 9999);
        CHECK.due("24 weight 0", x.weight(0, 0), -9999);
        x.untie(0);
        CHECK.due("24 far turns", Check.playText(x, "s 9999;s -9999;"), 2);
        CHECK.due("24 wear", x.count(9), 10 + 2 * 9999);
    }

    private static void refusedLines() {
        StageMachine x = two();
        CHECK.due("24 tie: no such rope", Check.playText(x, "t 3 0;"), -1000);
        CHECK.due("24 tie: no such drum", Check.playText(x, "s 1;t 0 1;"), -1001);
        CHECK.due("24 tie: spare below 0", Check.playText(x, "t 2 0;"), -1000);
        CHECK.due("24 tie: it is tied", Check.playText(x, "t 0 0;s 10;t 0 0;s 50;"), -1002);
        CHECK.due("24 what was done stays", x.ofThing(0, 3), 51);
        CHECK.due("24 the rest is not done", x.count(4), 11);
        CHECK.due("24 untie: not tied", Check.playText(x, "u 1;"), -1000);
        CHECK.due("24 untie: no such rope", Check.playText(x, "u 9999;"), -1000);
        CHECK.due("24 weight 20", Check.playText(x, "w 20 0;"), -1000);
        CHECK.due("24 untie with DONE", Check.playText(x, "s -100;u 0;u 0;"), -1002);
    }

    private static void stoppedLines() {
        StageMachine x = two();
        CHECK.due("24 stopped", Check.playText(x, "t 0 0;s 9999;u 0;"), StageMachine.STOPPED);
        CHECK.due("24 as far as it goes", x.ofThing(0, 3), 95);
        CHECK.due("24 still tied", x.ofThing(0, 6), 0);
        CHECK.row("14 of a cue", Check.stopped(x), 1, 0, -1);
        CHECK.due("24 stopped ahead of any step", Check.playText(x, "s 1;"), StageMachine.STOPPED);
        CHECK.due("24 not stopped", Check.playText(x, "s -1;"), 1);
        CHECK.row("14 the latest turn of a cue", Check.stopped(x), 0, -1, -1);
        x.bound(0);
        CHECK.due("24 uneven", Check.playText(x, "w 0 1;u 0;s 0;s 1;s 1;"), StageMachine.STOPPED);
        CHECK.row("14 uneven", Check.stopped(x), 3, -1, -1);
    }

    /** A CUE without a turn, and one that is not PLAYED, leave what stopped() tells. */
    private static void stoppedByTheLatestTurn() {
        StageMachine x = two();
        x.tie(0, 0);
        x.turn(9999);
        CHECK.due("24 no turn", Check.playText(x, "w 0 1;w 0 0;"), 2);
        CHECK.row("14 no turn", Check.stopped(x), 1, 0, -1);
        CHECK.due("24 refused ahead of its turn", Check.playText(x, "u 1;s -1;"), -1000);
        CHECK.row("14 refused ahead of its turn", Check.stopped(x), 1, 0, -1);
        CHECK.due("24 a FAULT", Check.playText(x, "s -1;s -1"), -109);
        CHECK.row("14 a FAULT", Check.stopped(x), 1, 0, -1);
        CHECK.due("24 refused behind its turn", Check.playText(x, "s -1;u 1;"), -1001);
        CHECK.row("14 refused behind its turn", Check.stopped(x), 0, -1, -1);
        x.turn(9999);
        x.weight(0, 5000);
        x.bound(0);
        CHECK.due("24 a turn by 0 is not STOPPED, though uneven", Check.playText(x, "s 0;s -0;s 0000;"), 3);
        CHECK.row("14 a turn by 0", Check.stopped(x), 0, -1, -1);
        CHECK.due("24 the latest of several turns", Check.playText(x, "w 0 0;u 0;s 1;w 0 1;s -1;"), StageMachine.STOPPED);
        CHECK.row("14 the latest of several turns", Check.stopped(x), 3, -1, -1);
        x.back();
        CHECK.row("25 stopped() stays", Check.stopped(x), 3, -1, -1);
    }

    private static void faults() {
        String[] texts = {"", "x 1;", "T 0 0;", " s 1;", ";", "s", "s ", "s 1", "s 1 ;", "s 1;;", "s 1; s 1;",
            "s  1;", "s1;", "s --1;", "s +1;", "s -", "s - 1;", "s 12345;", "s -12345;", "u -1;", "u 1 1;", "u;",
            "t 1;", "t 1 ;", "t 1 -1;", "t -1 1;", "t 12345 1;", "t 1 12345;", "w 1;", "w -1 1;", "w 1 --1;",
            "w 1 -;", "w 1 1 1;", "s 1;u 1;t 1 1;w 1 -1;x", "s 1;u 1;t 1 1;w 1 -1", "s 1:", "s 1/;"};
        int[] faults = {0, 0, 0, 0, 0, 1, 2, 3, 3, 4, 4,
            2, 1, 3, 2, 3, 3, 6, 7, 2, 3, 1,
            3, 4, 4, 2, 6, 8, 3, 2, 5,
            5, 5, 21, 20, 3, 3};
        CHECK.due("24 texts", texts.length, faults.length);
        StageMachine x = new StageMachine();
        for (int i = 0; i < texts.length; i++) {
            CHECK.due("24 fault of " + texts[i], Check.playText(x, texts[i]), -100 - faults[i]);
            CHECK.due("24 the tape is empty", x.count(8), 0);
        }
        CHECK.due("24 nothing is played", x.count(9), 0);
    }

    private static void longTapes() {
        StageMachine x = new StageMachine();
        CHECK.due("24 thirty lines", Check.playText(x, "s 1;".repeat(30)), 30);
        CHECK.due("24 the shaft", x.count(4), 30);
        CHECK.due("24 120 bytes, the end is missing", Check.playText(x, "s 1;".repeat(29) + "s 12"), -100 - 120);
        CHECK.due("24 seventeen far turns", Check.playText(x, "s 9999;".repeat(17)), 17);
        CHECK.due("24 the last line", Check.playText(x, "s 1;".repeat(29) + "u 1;"), -1029);
    }

    private static void back() {
        StageMachine x = two();
        x.tie(1, 0);
        x.turn(15);
        x.weight(2, 8);
        CHECK.due("24 a cue", Check.playText(x, "t 0 0;s 20;w 2 9;u 1;w 3 1;u 0;s -30;t 1 0;s -10;"), 9);
        CHECK.due("25 back", x.back(), 1);
        CHECK.row("25 thing 0", Check.ofThing(x, 0), 0, 5, 10, 50, 0, 95, -1, -1);
        CHECK.row("25 thing 1", Check.ofThing(x, 1), 1, 5, 10, 51, 0, 95, 1, 50);
        CHECK.row("25 rope 0", Check.ofRope(x, 0), 0, 1, 1, 99, 10, -1, 0, 0);
        CHECK.row("25 rope 1", Check.ofRope(x, 1), 1, 1, 1, 99, 10, 0, 150, 0);
        CHECK.due("25 shaft", x.count(4), 15);
        CHECK.due("25 wear", x.count(9), 15);
        CHECK.due("25 tied ones", x.count(3), 1);
        CHECK.due("25 weight 2", x.weight(2, 0), 8);
        CHECK.due("25 weight 3", x.weight(3, 0), 0);
        CHECK.due("25 twice", x.back(), StageMachine.NOT);
        CHECK.due("25 none", new StageMachine().back(), StageMachine.NOT);
    }

    private static void backOfTies() {
        StageMachine x = two();
        x.tie(0, 0);
        x.turn(12);
        Check.playText(x, "u 0;t 1 0;s 10;");
        CHECK.due("25 back", x.back(), 1);
        CHECK.row("25 rope 0 is tied again", Check.ofRope(x, 0), 0, 1, 1, 99, 10, 0, 120, 0);
        CHECK.row("25 rope 1 is untied again", Check.ofRope(x, 1), 1, 1, 1, 99, 10, -1, 0, 0);
        CHECK.row("25 thing 0", Check.ofThing(x, 0), 0, 5, 10, 51, 0, 95, 0, 50);
        CHECK.row("25 thing 1", Check.ofThing(x, 1), 1, 5, 10, 50, 0, 95, -1, -1);
        CHECK.due("25 it can be tied", x.tie(1, 0), 89);
        CHECK.due("25 the other can't", x.tie(0, 0), StageMachine.NOT);
        x.turn(10);
        CHECK.row("25 both go on", new int[] {x.ofThing(0, 3), x.ofThing(1, 3)}, 52, 51);

        x = two();
        x.tie(0, 0);
        x.turn(120);
        Check.playText(x, "u 0;t 0 0;s -50;");
        CHECK.due("25 back", x.back(), 1);
        CHECK.row("25 the same rope, tied anew", Check.ofRope(x, 0), 0, 1, 1, 99, 10, 0, 1200, 0);
        CHECK.row("25 where it was tied", Check.ofThing(x, 0), 0, 5, 10, 62, 0, 95, 0, 50);
    }

    /** A CUE was PLAYED that tied ROPE 0 and turned by 10. */
    private static StageMachine played() {
        StageMachine x = two();
        CHECK.due("24 played", Check.playText(x, "t 0 0;s 10;"), 2);
        return x;
    }

    private static void backEnds() {
        StageMachine x = played();
        x.tie(1, 0);
        CHECK.due("25 after tie", x.back(), StageMachine.NOT);
        CHECK.due("25 nothing is taken back", x.ofThing(0, 3), 51);
        x = played();
        x.untie(0);
        CHECK.due("25 after untie", x.back(), StageMachine.NOT);
        x = played();
        x.weight(0, 0);
        CHECK.due("25 after weight", x.back(), StageMachine.NOT);
        x = played();
        x.snap(0);
        CHECK.due("25 after snap", x.back(), StageMachine.NOT);
        x = played();
        x.thing(300, 1, 99, 1);
        CHECK.due("25 after thing", x.back(), StageMachine.NOT);
        x = played();
        x.rope(0, 11, 1);
        CHECK.due("25 after rope", x.back(), StageMachine.NOT);
        x = played();
        x.drum(1);
        CHECK.due("25 after drum", x.back(), StageMachine.NOT);
        x = played();
        x.turn(-1);
        CHECK.due("25 after a step", x.back(), StageMachine.NOT);
    }

    /** Answers of 0 are no refusals. */
    private static void backEndsByTheFirst() {
        StageMachine x = new StageMachine();
        Check.playText(x, "s 1;");
        CHECK.due("2 the first", x.thing(0, 1, 99, 5), 0);
        CHECK.due("25 after the first thing", x.back(), StageMachine.NOT);
        Check.playText(x, "s 1;");
        CHECK.due("5 the first", x.drum(20), 0);
        CHECK.due("25 after the first drum", x.back(), StageMachine.NOT);
        Check.playText(x, "s 1;");
        CHECK.due("6 the first", x.rope(0, 11, 5), 0);
        CHECK.due("25 after the first rope", x.back(), StageMachine.NOT);
        Check.playText(x, "s 1;");
        CHECK.due("8 nothing to spare", x.tie(0, 0), 0);
        CHECK.due("25 after such a tie", x.back(), StageMachine.NOT);
        Check.playText(x, "s 1;");
        CHECK.due("9 DONE", x.untie(0), 20);
        CHECK.due("25 after untie", x.back(), StageMachine.NOT);
        CHECK.due("24 nothing to spare", Check.playText(x, "t 0 0;"), 1);
        CHECK.due("9 DONE 0", x.untie(0), 0);
        CHECK.due("25 after untie", x.back(), StageMachine.NOT);
        Check.playText(x, "t 0 0;");
        CHECK.due("16 no fall", x.snap(0), 0);
        CHECK.due("25 after such a break", x.back(), StageMachine.NOT);
    }

    private static void backStays() {
        StageMachine x = played();
        CHECK.due("8 refused", x.tie(0, 0), StageMachine.NOT);
        CHECK.due("8 refused", x.tie(9, 0), StageMachine.BAD);
        CHECK.due("9 refused", x.untie(1), StageMachine.VOID);
        CHECK.due("10 refused", x.weight(20, 0), StageMachine.VOID);
        CHECK.due("16 refused", x.snap(1), StageMachine.NOT);
        CHECK.due("2 refused", x.thing(51, 1, 99, 1), StageMachine.NOT);
        CHECK.due("6 refused", x.rope(0, 10, 1), StageMachine.BAD);
        CHECK.due("5 refused", x.drum(0), StageMachine.BAD);
        CHECK.due("13 none", x.turn(0), 0);
        CHECK.due("13 refused", x.turn(10000), StageMachine.BAD);
        CHECK.due("15 free", x.free(5), 5);
        x.bound(7);
        CHECK.due("13 stopped at once", x.turn(5), 0);
        x.hold(52);
        x.scene(0, 0, 60);
        x.change(0, 5);
        x.candle(5);
        x.minutes(1);
        x.flat(101, 1);
        Check.feedText(x, "s 1");
        CHECK.due("25 nothing was done since", x.back(), 1);
        CHECK.due("25 thing 0", x.ofThing(0, 3), 50);
        CHECK.due("25 shaft", x.count(4), 0);
        CHECK.row("25 stopped() stays", Check.stopped(x), 3, -1, -1);
        CHECK.due("25 BOUND stays", x.bound(9), 7);
        CHECK.due("25 TIME stays", x.count(5), 1);
        CHECK.due("25 the tape stays", x.count(8), 3);
        CHECK.due("25 a catch stays", x.hold(52), StageMachine.BAD);
        CHECK.due("25 the scene stays", x.scene(0, 0, -1), 60);
    }

    private static void backOfTheLast() {
        StageMachine x = played();
        CHECK.due("24 another", Check.playText(x, "s 10;"), 1);
        CHECK.due("25 the last", x.back(), 1);
        CHECK.due("25 as ahead of it", x.ofThing(0, 3), 51);
        CHECK.due("25 only the last", x.back(), StageMachine.NOT);

        x = played();
        CHECK.due("24 a FAULT: nothing is PLAYED", Check.playText(x, "s 10"), -104);
        CHECK.due("25 still the one before", x.back(), 1);
        CHECK.due("25 as ahead of that", x.ofThing(0, 3), 50);

        x = played();
        CHECK.due("24 the first line refused", Check.playText(x, "u 1;"), -1000);
        CHECK.due("25 it was PLAYED", x.back(), 1);
        CHECK.due("25 nothing of it to take back", x.ofThing(0, 3), 51);

        x = two();
        CHECK.due("24 stopped", Check.playText(x, "t 0 0;s 9999;"), StageMachine.STOPPED);
        CHECK.due("25 of a stopped one", x.back(), 1);
        CHECK.due("25 thing 0", x.ofThing(0, 3), 50);
        CHECK.row("25 stopped() stays", Check.stopped(x), 1, 0, -1);
    }
}
