import java.util.List;
import java.util.function.Consumer;
import java.util.function.ToIntFunction;

/**
 * "What is answered so changes nothing, but as said": each call that is refused
 * and each that only tells leaves all that can be seen (Seen) as it was; where
 * the document says that something changes, no more than that does.
 */
public final class RefusedTest {
    private static final Check CHECK = new Check("RefusedTest");
    private static final int BAD = StageMachine.BAD;
    private static final int NOT = StageMachine.NOT;
    private static final int FULL = StageMachine.FULL;
    private static final int VOID = StageMachine.VOID;

    private final String name;
    private final Consumer<StageMachine> setup;
    private final List<String> before;

    private RefusedTest(String name, Consumer<StageMachine> setup) {
        this.name = name;
        this.setup = setup;
        this.before = Seen.after(setup);
    }

    public static void main(String[] args) {
        theStageIsRich();
        RefusedTest lived = new RefusedTest("lived", Stages::lived);
        lived.whatThereIs();
        lived.turning();
        lived.scenes();
        lived.candlesAndStock();
        lived.tellings();
        new RefusedTest("with NOT", Stages::livedWithNot).afterNot();
        new RefusedTest("full", Stages::full).whenFull();
        new RefusedTest("full with change", Stages::fullWithChange).menOfMany();
        new RefusedTest("new", x -> { }).whenNew();
        fullLists();
        butAsSaid();
        cues();
        CHECK.end();
    }

    /** The call is answered so, and all is as it was. */
    private void same(String what, int due, ToIntFunction<StageMachine> call) {
        int[] answer = new int[1];
        List<String> after = Seen.after(x -> {
            setup.accept(x);
            answer[0] = call.applyAsInt(x);
        });
        CHECK.due(name + ": " + what, answer[0], due);
        String difference = Seen.difference(before, after);
        CHECK.holds(name + ": " + what + " changes " + difference, difference.isEmpty());
    }

    /** Both runs lead to the same. */
    private static void alike(String what, Consumer<StageMachine> one, Consumer<StageMachine> other) {
        String difference = Seen.difference(Seen.after(one), Seen.after(other));
        CHECK.holds(what + ": " + difference, difference.isEmpty());
    }

    private static void differ(String what, Consumer<StageMachine> one, Consumer<StageMachine> other) {
        CHECK.holds(what, !Seen.difference(Seen.after(one), Seen.after(other)).isEmpty());
    }

    /** The stage that the rest rests on has what a refused call could spoil. */
    private static void theStageIsRich() {
        StageMachine x = new StageMachine();
        Stages.lived(x);
        CHECK.row("lived counts", Check.counts(x), 4, 3, 7, 2, x.count(4), 12, 3, 4, 5, x.count(9));
        CHECK.row("lived stopped", Check.stopped(x), 0, -1, -1);
        CHECK.row("lived change", new int[] {x.told(0, 0), x.work(0), x.men(5)}, 0, 2, 1);
        CHECK.due("lived back", x.back(), 1);
        StageMachine y = new StageMachine();
        Stages.full(y);
        CHECK.row("full counts", Check.counts(y), 40, 20, 40, 0, 0, 9999, 60, 12, 120, 0);
        differ("a step is seen", Stages::lived, x1 -> { Stages.lived(x1); x1.turn(-1); });
        differ("a tie is seen", Stages::lived, x1 -> { Stages.lived(x1); x1.tie(3, 0); });
        differ("a weight is seen", Stages::lived, x1 -> { Stages.lived(x1); x1.weight(0, 1); });
        differ("a lost CUE is seen", Stages::lived, x1 -> { Stages.lived(x1); x1.weight(0, 0); });
        differ("a catch is seen", Stages::lived, x1 -> { Stages.lived(x1); x1.hold(1400); });
        differ("a scene is seen", Stages::lived, x1 -> { Stages.lived(x1); x1.scene(7, 3, 0); });
        differ("a byte is seen", Stages::lived, x1 -> { Stages.lived(x1); x1.feed(1, '1'); });
        differ("a candle is seen", Stages::lived, x1 -> { Stages.lived(x1); x1.candle(300); });
        differ("a trimmed candle is seen", Stages::lived, x1 -> { Stages.lived(x1); x1.trim(30); });
        differ("a want is seen", Stages::lived, x1 -> { Stages.lived(x1); x1.want(101, 3); });
    }

    private void whatThereIs() {
        same("thing: LANE 16", BAD, x -> x.thing(1600, 1, 99, 1));
        same("thing: where -1", BAD, x -> x.thing(-1, 1, 99, 1));
        same("thing: WIDTH 0", BAD, x -> x.thing(1400, 0, 99, 1));
        same("thing: WIDTH 61", BAD, x -> x.thing(1400, 61, 39, 1));
        same("thing: AT below LEAST", BAD, x -> x.thing(1400, 1, 199, 1));
        same("thing: AT above MOST", BAD, x -> x.thing(1450, 1, 49, 1));
        same("thing: MOST and WIDTH 101", BAD, x -> x.thing(1400, 2, 99, 1));
        same("thing: bounds -1", BAD, x -> x.thing(1400, 1, -1, 1));
        same("thing: WEIGHT -1", BAD, x -> x.thing(1400, 1, 99, -1));
        same("thing: WEIGHT 1000", BAD, x -> x.thing(1400, 1, 99, 1000));
        same("thing: on another", NOT, x -> x.thing(54, 1, 99, 1));
        same("drum: SIZE 0", BAD, x -> x.drum(0));
        same("drum: SIZE 21", BAD, x -> x.drum(21));
        same("rope: thing 4", BAD, x -> x.rope(4, 11, 1));
        same("rope: thing -1", BAD, x -> x.rope(-1, 11, 1));
        same("rope: GEAR 0", BAD, x -> x.rope(0, 1, 1));
        same("rope: GEAR 6", BAD, x -> x.rope(0, 61, 1));
        same("rope: no WAY", BAD, x -> x.rope(0, 10, 1));
        same("rope: WAY 3", BAD, x -> x.rope(0, 13, 1));
        same("rope: HOLDS 0", BAD, x -> x.rope(0, 11, 0));
        same("rope: HOLDS 10000", BAD, x -> x.rope(0, 11, 10000));
        same("tie: rope 7", BAD, x -> x.tie(7, 0));
        same("tie: rope -1", BAD, x -> x.tie(-1, 0));
        same("tie: drum 3", BAD, x -> x.tie(4, 3));
        same("tie: drum -1", BAD, x -> x.tie(4, -1));
        same("tie: it is tied", NOT, x -> x.tie(0, 1));
        same("tie: another is tied", NOT, x -> x.tie(1, 1));
        same("tie: gone", NOT, x -> x.tie(6, 1));
        same("tie: SPARE below 0", NOT, x -> x.tie(5, 1));
        same("untie: rope 7", VOID, x -> x.untie(7));
        same("untie: rope -1", VOID, x -> x.untie(-1));
        same("untie: not tied", VOID, x -> x.untie(3));
        same("untie: gone", VOID, x -> x.untie(6));
        same("weight: 20", VOID, x -> x.weight(20, 0));
        same("weight: -1", VOID, x -> x.weight(-1, 0));
        same("weight: v 10000", VOID, x -> x.weight(3, 10000));
        same("weight: v -10000", VOID, x -> x.weight(3, -10000));
        same("bound: -1", BAD, x -> x.bound(-1));
        same("bound: 100000", BAD, x -> x.bound(100000));
    }

    private void turning() {
        same("turn: 10000", BAD, x -> x.turn(10000));
        same("turn: -10000", BAD, x -> x.turn(-10000));
        same("turn: the least number", BAD, x -> x.turn(Integer.MIN_VALUE));
        same("turn: no step", 0, x -> x.turn(0));
        same("free: 10000", BAD, x -> x.free(10000));
        same("free: -10000", BAD, x -> x.free(-10000));
        same("snap: rope 7", BAD, x -> x.snap(7));
        same("snap: rope -1", BAD, x -> x.snap(-1));
        same("snap: not tied", NOT, x -> x.snap(3));
        same("snap: gone", NOT, x -> x.snap(6));
        same("hold: LANE 16", BAD, x -> x.hold(1600));
        same("hold: -1", BAD, x -> x.hold(-1));
        same("hold: it is there", BAD, x -> x.hold(150));
        same("hold: it is there, the lane is full", BAD, x -> x.hold(29));
        same("hold: full", FULL, x -> x.hold(30));
    }

    private void scenes() {
        same("scene: 10", -2, x -> x.scene(10, 0, 30));
        same("scene: -1", -2, x -> x.scene(-1, 0, 30));
        same("scene: thing 4", -2, x -> x.scene(0, 4, 30));
        same("scene: thing -1", -2, x -> x.scene(0, -1, 30));
        same("scene: below LEAST", -2, x -> x.scene(9, 1, 29));
        same("scene: above MOST", -2, x -> x.scene(9, 1, 96));
        same("scene: -2", -2, x -> x.scene(9, 1, -2));
        same("change: scene 10", BAD, x -> x.change(10, 1));
        same("change: scene -1", BAD, x -> x.change(-1, 1));
        same("change: n 0", BAD, x -> x.change(9, 0));
        same("change: n 10000", BAD, x -> x.change(9, 10000));
        same("change: n -10000", BAD, x -> x.change(9, -10000));
        same("told: thing 4", BAD, x -> x.told(4, 0));
        same("told: thing -1", BAD, x -> x.told(-1, 0));
        same("told: what 2", BAD, x -> x.told(0, 2));
        same("told: what -1", BAD, x -> x.told(0, -1));
        same("work: what 2", BAD, x -> x.work(2));
        same("work: what -1", BAD, x -> x.work(-1));
        same("men: t 0", BAD, x -> x.men(0));
        same("men: t 100", BAD, x -> x.men(100));
        same("men: none", NOT, x -> x.men(1));
    }

    private void candlesAndStock() {
        same("feed: n 0", BAD, x -> x.feed(0, ';'));
        same("feed: n 5", BAD, x -> x.feed(5, ';'));
        same("candle: 0", BAD, x -> x.candle(0));
        same("candle: 301", BAD, x -> x.candle(301));
        same("minutes: 0", BAD, x -> x.minutes(0));
        same("minutes: 1001", BAD, x -> x.minutes(1001));
        same("trim: -1", BAD, x -> x.trim(-1));
        same("trim: 301", BAD, x -> x.trim(301));
        same("trim: none has so few left", 0, x -> x.trim(17));
        same("light: 3", BAD, x -> x.light(3));
        same("light: -1", BAD, x -> x.light(-1));
        same("flat: width 0", BAD, x -> x.flat(100, 1));
        same("flat: height 0", BAD, x -> x.flat(99, 1));
        same("flat: height 100", BAD, x -> x.flat(10001, 1));
        same("flat: PAINT 10", BAD, x -> x.flat(101, 10));
        same("flat: PAINT -1", BAD, x -> x.flat(101, -1));
        same("want: width 0", BAD, x -> x.want(100, 1));
        same("want: height 0", BAD, x -> x.want(99, 1));
        same("want: height 100", BAD, x -> x.want(10001, 1));
        same("want: PAINT 10", BAD, x -> x.want(101, 10));
        same("want: PAINT -1", BAD, x -> x.want(101, -1));
        same("given: 2", BAD, x -> x.given(2));
        same("given: -1", BAD, x -> x.given(-1));
        same("count: 10", VOID, x -> x.count(10));
        same("count: -1", VOID, x -> x.count(-1));
    }

    /** Calls that only tell. */
    private void tellings() {
        same("ofThing", 999, x -> x.ofThing(3, 2));
        same("ofThing: what 8", -2, x -> x.ofThing(3, 8));
        same("ofThing: thing 4", -2, x -> x.ofThing(4, 0));
        same("on", 3, x -> x.on(1599));
        same("on: none", NOT, x -> x.on(1598));
        same("on: LANE 16", BAD, x -> x.on(1600));
        same("ofRope", 200, x -> x.ofRope(4, 4));
        same("ofRope: what 8", VOID, x -> x.ofRope(4, 8));
        same("ofRope: rope 7", VOID, x -> x.ofRope(7, 0));
        same("pull", livedNow(StageMachine::pull), StageMachine::pull);
        same("free", livedNow(x -> x.free(9999)), x -> x.free(9999));
        same("free back", livedNow(x -> x.free(-9999)), x -> x.free(-9999));
        same("free: no step", 0, x -> x.free(0));
        same("stopped: what 3", BAD, x -> x.stopped(3));
        same("told", 0, x -> x.told(0, 0));
        same("work", 2, x -> x.work(0));
        same("men", 1, x -> x.men(99));
        same("given", 0, x -> x.given(0));
        same("light", 18, x -> x.light(2));
        same("count", 4, x -> x.count(0));
        same("told its own AT again", 95, x -> x.scene(9, 1, 95));
        same("BOUND told again", 5000, x -> x.bound(5000));
    }

    private static int livedNow(ToIntFunction<StageMachine> call) {
        StageMachine x = new StageMachine();
        Stages.lived(x);
        return call.applyAsInt(x);
    }

    private void afterNot() {
        same("change: n 0", BAD, x -> x.change(0, 0));
        same("told", -2, x -> x.told(2, 0));
        same("work", NOT, x -> x.work(0));
        same("men", NOT, x -> x.men(99));
    }

    private void whenFull() {
        same("thing", FULL, x -> x.thing(1400, 1, 99, 1));
        same("thing on another", NOT, x -> x.thing(0, 1, 99, 1));
        same("drum", FULL, x -> x.drum(1));
        same("rope", FULL, x -> x.rope(0, 11, 1));
        same("feed", FULL, x -> x.feed(1, ';'));
        same("feed four", FULL, x -> x.feed(4, ';'));
        same("candle", FULL, x -> x.candle(1));
        same("minutes beyond 9999", BAD, x -> x.minutes(1));
        same("minutes far beyond 9999", BAD, x -> x.minutes(1000));
        same("flat", FULL, x -> x.flat(101, 1));
        same("want", FULL, x -> x.want(101, 1));
        same("back: none", NOT, StageMachine::back);
        same("given: before any", BAD, x -> x.given(0));
        same("told: before any", BAD, x -> x.told(0, 0));
    }

    private void menOfMany() {
        same("men: BIG", StageMachine.BIG, x -> x.men(99));
        same("men: NOT", NOT, x -> x.men(2));
    }

    private void whenNew() {
        same("rope without a thing", BAD, x -> x.rope(0, 11, 1));
        same("tie without a rope", BAD, x -> x.tie(0, 0));
        same("scene without a thing", -2, x -> x.scene(0, 0, -1));
        same("told", BAD, x -> x.told(0, 0));
        same("work", BAD, x -> x.work(0));
        same("men", BAD, x -> x.men(1));
        same("play: the TEXT ends too early", -100, StageMachine::play);
        same("back", NOT, StageMachine::back);
        same("trim", 0, x -> x.trim(300));
        same("paint: no want", NOT, StageMachine::paint);
        same("given", BAD, x -> x.given(0));
    }

    /** Bytes that would not all go on THE TAPE: none of them does. */
    private static void fullLists() {
        RefusedTest nearlyFull = new RefusedTest("tape of 118", x -> Check.feedText(x, "w 5 77;".repeat(16) + "w 6 88"));
        nearlyFull.same("feed three", FULL, x -> x.feed(3, ';' | 'x' << 8 | 'x' << 16));
        nearlyFull.same("feed four", FULL, x -> x.feed(4, ';'));
        RefusedTest late = new RefusedTest("TIME 9500", x -> {
            x.candle(300);
            for (int i = 0; i < 10; i++) {
                x.minutes(950);
            }
            x.candle(100);
        });
        late.same("minutes beyond", BAD, x -> x.minutes(500));
        late.same("minutes far beyond", BAD, x -> x.minutes(1000));
    }

    /** What is answered so changes what is said, and no more. */
    private static void butAsSaid() {
        alike("paint() that finds no way empties THE LIST, no more",
            x -> { Stages.lived(x); x.paint(); },
            x -> { Stages.lived(x); x.paint(); x.want(9999, 1); x.paint(); });
        alike("paint() without a want changes nothing",
            x -> { Stages.lived(x); x.paint(); },
            x -> { Stages.lived(x); x.paint(); x.paint(); });
        alike("a FAULT empties THE TAPE, no more",
            x -> { Stages.lived(x); Check.playText(x, "x"); },
            x -> { Stages.lived(x); Check.playText(x, "x"); Check.playText(x, "w 1 1;u 0;s 9;!"); });
        alike("change() that is NOT is the latest one, no more",
            x -> { Stages.livedWithNot(x); x.change(0, 100); },
            x -> { Stages.livedWithNot(x); x.change(0, 100); x.change(2, 200); x.change(0, 100); });
        differ("change() that is NOT is the latest one", Stages::livedWithNot,
            x -> { Stages.livedWithNot(x); x.change(0, 100); });
        Consumer<StageMachine> atItsEnd = x -> { Stages.lived(x); x.tie(3, 0); x.turn(9999); x.turn(9999); };
        alike("turn() without a step tells by what it was STOPPED, no more", atItsEnd,
            x -> { atItsEnd.accept(x); x.turn(1); });
        Consumer<StageMachine> uneven = x -> { Stages.lived(x); x.bound(0); x.turn(1); };
        alike("turn() STOPPED ahead of its first step leaves the CUE", uneven,
            x -> { uneven.accept(x); x.turn(-9999); });
    }

    private static void cues() {
        Consumer<StageMachine> empty = x -> { Stages.lived(x); Check.playText(x, "x"); x.untie(0); };
        alike("behind a refused LINE nothing is done",
            x -> { empty.accept(x); Check.playText(x, "w 1 5;t 0 1;"); },
            x -> { empty.accept(x); Check.playText(x, "w 1 5;t 0 1;t 1 0;w 1 6;u 0;s 5;"); });
        alike("behind a STOPPED turn nothing is done",
            x -> { empty.accept(x); Check.playText(x, "t 0 0;s 9999;"); },
            x -> { empty.accept(x); Check.playText(x, "t 0 0;s 9999;w 1 5;u 0;s -5;"); });
        alike("BACK: all is as ahead of the CUE",
            x -> { empty.accept(x); x.turn(0); },
            x -> { empty.accept(x); Check.playText(x, "w 1 5;t 0 0;s 7;u 2;s -3;t 3 2;s 2;"); x.back(); });
        alike("BACK of a CUE whose first LINE was refused",
            empty, x -> { empty.accept(x); Check.playText(x, "u 0;s 5;"); x.back(); });
        alike("BACK twice", x -> { Stages.lived(x); x.back(); }, x -> { Stages.lived(x); x.back(); x.back(); });
        alike("BACK leaves what is no THING, TIE, weight, SHAFT or wear",
            x -> {
                empty.accept(x);
                others(x);
            },
            x -> {
                empty.accept(x);
                Check.playText(x, "w 1 5;");
                others(x);
                x.back();
            });
    }

    private static void others(StageMachine x) {
        x.bound(777);
        x.hold(1300);
        x.scene(3, 1, 50);
        x.change(3, 7);
        x.candle(50);
        x.minutes(3);
        x.trim(100);
        x.flat(303, 3);
        x.want(303, 3);
        x.paint();
        x.want(202, 3);
        Check.feedText(x, "w 2 2");
    }
}
