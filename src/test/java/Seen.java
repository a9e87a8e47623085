import java.util.ArrayList;
import java.util.List;
import java.util.function.Consumer;

/**
 * All that can be seen of an object behind a run of calls: what it tells, and
 * how it answers when it is probed. Each probe has an object of its own, on
 * which the run is done anew, so that none disturbs another and none comes
 * beyond the 512th call.
 */
final class Seen {
    private final Consumer<StageMachine> run;
    private final List<String> rows = new ArrayList<>();
    private StageMachine x;

    private Seen(Consumer<StageMachine> run) {
        this.run = run;
    }

    static List<String> after(Consumer<StageMachine> run) {
        Seen seen = new Seen(run);
        seen.told();
        seen.things();
        seen.ropes();
        seen.changes();
        seen.scenes();
        seen.weights();
        seen.catches();
        seen.tape();
        seen.back();
        seen.numbers();
        seen.drums();
        seen.turns();
        seen.candles();
        seen.stock();
        return seen.rows;
    }

    /** The first row in which they differ, or an empty text. */
    static String difference(List<String> one, List<String> other) {
        for (int i = 0; i < Math.max(one.size(), other.size()); i++) {
            String a = i < one.size() ? one.get(i) : "none";
            String b = i < other.size() ? other.get(i) : "none";
            if (!a.equals(b)) {
                return a + " / " + b;
            }
        }
        return "";
    }

    private void anew() {
        x = new StageMachine();
        run.accept(x);
    }

    private void note(String call, int... answers) {
        StringBuilder row = new StringBuilder(call);
        for (int answer : answers) {
            row.append(' ').append(answer);
        }
        rows.add(row.toString());
    }

    private void told() {
        anew();
        note("counts", Check.counts(x));
        note("stopped", Check.stopped(x));
        note("light", x.light(0), x.light(1), x.light(2));
        note("pull", x.pull());
        note("free", x.free(9999), x.free(-9999));
        for (int i = 0; i < 6; i++) {
            note("given " + i, x.given(i));
        }
    }

    private void things() {
        anew();
        for (int i = 0; i < x.count(0); i++) {
            note("thing " + i, x.ofThing(i, 2), x.ofThing(i, 3), x.ofThing(i, 6), x.ofThing(i, 7));
        }
        anew();
        for (int i = 0; i < x.count(0); i++) {
            note("thing " + i, x.ofThing(i, 0), x.ofThing(i, 1), x.ofThing(i, 4), x.ofThing(i, 5));
        }
    }

    private void ropes() {
        anew();
        for (int i = 0; i < x.count(2); i++) {
            note("rope " + i, x.ofRope(i, 4), x.ofRope(i, 5), x.ofRope(i, 6), x.ofRope(i, 7));
        }
        anew();
        for (int i = 0; i < x.count(2); i++) {
            note("rope " + i, x.ofRope(i, 0), x.ofRope(i, 1), x.ofRope(i, 2), x.ofRope(i, 3));
        }
    }

    private void changes() {
        anew();
        note("work", x.work(0), x.work(1));
        for (int t = 1; t <= 15; t++) {
            note("men " + t, x.men(t));
        }
        for (int i = 0; i < 40; i++) {
            note("told " + i, x.told(i, 0), x.told(i, 1));
        }
    }

    private void scenes() {
        int things = Math.min(20, numberOfThings());
        for (int first = 0; first < 10; first += 5) {
            anew();
            for (int k = 0; k < 5 * things; k++) {
                int scene = first + k / things;
                note("scene " + scene + " of " + k % things, x.scene(scene, k % things, -1));
            }
        }
    }

    private int numberOfThings() {
        anew();
        return x.count(0);
    }

    private void weights() {
        anew();
        for (int i = 0; i < 20; i++) {
            note("weight " + i, x.weight(i, 0));
        }
        note("bound", x.bound(0));
    }

    /** At a catch hold() answers BAD; the sixth of a lane is FULL. */
    private void catches() {
        anew();
        for (int place = 0; place < 200; place++) {
            note("catch " + place, x.hold(place));
        }
        for (int lane = 2; lane < 16; lane++) {
            note("catch of lane " + lane, x.hold(100 * lane + 50));
        }
    }

    private void tape() {
        anew();
        note("play", x.play());
        anew();
        note("feed", x.feed(1, ';'));
        note("play", x.play());
        for (int i = 0; i < 20; i++) {
            note("played weight " + i, x.weight(i, 0));
        }
    }

    private void back() {
        anew();
        note("back", x.back());
        note("back counts", Check.counts(x));
        for (int i = 0; i < x.count(0); i++) {
            note("back thing " + i, x.ofThing(i, 3), x.ofThing(i, 6), x.ofThing(i, 7));
        }
        for (int i = 0; i < 20; i++) {
            note("back weight " + i, x.weight(i, 0));
        }
    }

    private void numbers() {
        anew();
        note("next", x.thing(1400, 1, 99, 0), x.drum(1), x.rope(0, 11, 9), x.candle(9), x.flat(101, 0), x.want(101, 0));
    }

    /** SIZE of each DRUM, by the PULL of a weight on it. */
    private void drums() {
        anew();
        int rope = x.rope(0, 11, 9999);
        x.untie(x.ofThing(0, 6));
        for (int i = 0; i < 20; i++) {
            note("drum " + i, x.tie(rope, i), x.pull(), x.untie(rope));
        }
    }

    private void turns() {
        anew();
        for (int n = 9999; n >= -9999; n -= 19998) {
            note("turn " + n, x.turn(n), x.stopped(0), x.stopped(1), x.stopped(2), x.pull());
            for (int i = 0; i < Math.min(40, x.count(0)); i++) {
                note("turned thing " + i, x.ofThing(i, 3));
            }
        }
    }

    private void candles() {
        anew();
        for (int i = 0; i < 60; i++) {
            note("minute " + i, x.minutes(5), x.light(0), x.light(2));
        }
        for (int k = 0; k < 60; k += 4) {
            anew();
            note("trim " + k, x.trim(k), x.light(2));
        }
    }

    private void stock() {
        anew();
        note("paint", x.paint());
        note("given", x.given(0), x.given(1), x.given(2), x.given(3), x.given(4), x.given(5));
        for (int paint = 0; paint < 10; paint++) {
            note("want", x.want(101, paint), x.want(505, paint), x.want(1010, paint));
            note("paint " + paint, x.paint(), x.given(0), x.given(1), x.given(2));
        }
    }
}
