/** Promises 18 to 22: scenes. */
public final class SceneTest {
    private static final Check CHECK = new Check("SceneTest");

    public static void main(String[] args) {
        scene();
        change();
        changeRefused();
        firstRopeAndDrum();
        notFound();
        work();
        workIsOfTheChange();
        workAnew();
        men();
        menShareExactly();
        menOfAllWorks();
        menRefused();
        CHECK.end();
    }

    private static void scene() {
        StageMachine x = new StageMachine();
        CHECK.due("18 no thing", x.scene(0, 0, 5), -2);
        x.thing(20, 10, 1050, 1);
        CHECK.due("18 first", x.scene(0, 0, 10), -1);
        CHECK.due("18 again", x.scene(0, 0, 50), 10);
        CHECK.due("18 none", x.scene(0, 0, -1), 50);
        CHECK.due("18 after none", x.scene(0, 0, 20), -1);
        CHECK.due("18 below LEAST", x.scene(0, 0, 9), -2);
        CHECK.due("18 above MOST", x.scene(0, 0, 51), -2);
        CHECK.due("18 at -2", x.scene(0, 0, -2), -2);
        CHECK.due("18 scene 10", x.scene(10, 0, 20), -2);
        CHECK.due("18 scene -1", x.scene(-1, 0, 20), -2);
        CHECK.due("18 thing 1", x.scene(0, 1, 20), -2);
        CHECK.due("18 thing -1", x.scene(0, -1, 20), -2);
        CHECK.due("18 last scene", x.scene(9, 0, 30), -1);
        CHECK.due("18 scenes are apart", x.scene(0, 0, -1), 20);
        CHECK.due("18 last scene again", x.scene(9, 0, -1), 30);
    }

    /** THINGS 0 .. 3 at 50 of LANES 0 .. 3 with a ROPE to the right each (gear 1), DRUMS of 10 and 5. */
    private static StageMachine four() {
        StageMachine x = new StageMachine();
        for (int i = 0; i < 4; i++) {
            x.thing(100 * i + 50, 5, 95, 10);
            x.rope(i, 11, 10);
        }
        x.drum(10);
        x.drum(5);
        return x;
    }

    private static void change() {
        StageMachine x = four();
        CHECK.due("19 nothing is told", x.change(3, 1), 0);
        x.scene(3, 1, 60);
        x.scene(3, 2, 50);
        x.scene(3, 3, 55);
        x.scene(4, 0, 90);
        CHECK.due("19 two are to be moved", x.change(3, 100), 2);
        CHECK.row("20 ropes", new int[] {x.told(0, 0), x.told(1, 0), x.told(2, 0), x.told(3, 0)}, -1, 1, -1, 3);
        CHECK.row("20 drums", new int[] {x.told(0, 1), x.told(1, 1), x.told(2, 1), x.told(3, 1)}, -1, 0, -1, 1);
        CHECK.due("19 the rest is away", x.change(3, 109), 2);
        CHECK.due("19 one place too far by one drum", x.change(3, 110), StageMachine.NOT);
        CHECK.due("19 nothing is tied by it", x.count(3), 0);
        x.scene(5, 0, 40);
        CHECK.due("19 back", x.change(5, -100), 1);
        CHECK.due("19 most steps", x.change(5, -9999), StageMachine.NOT);
        CHECK.due("19 most steps forward", x.change(6, 9999), 0);
        x.scene(9, 3, 60);
        CHECK.due("19 the last scene", x.change(9, 100), 1);
    }

    private static void changeRefused() {
        StageMachine x = four();
        x.scene(0, 2, 60);
        x.change(0, 100);
        CHECK.due("19 scene 10", x.change(10, 5), StageMachine.BAD);
        CHECK.due("19 scene -1", x.change(-1, 5), StageMachine.BAD);
        CHECK.due("19 n 0", x.change(0, 0), StageMachine.BAD);
        CHECK.due("19 n 10000", x.change(0, 10000), StageMachine.BAD);
        CHECK.due("19 n -10000", x.change(0, -10000), StageMachine.BAD);
        CHECK.due("20 the latest that was not BAD", x.told(2, 0), 2);
        CHECK.due("20 what 2", x.told(2, 2), StageMachine.BAD);
        CHECK.due("20 what -1", x.told(2, -1), StageMachine.BAD);
        CHECK.due("20 thing 4", x.told(4, 0), StageMachine.BAD);
        CHECK.due("20 thing -1", x.told(-1, 0), StageMachine.BAD);
        CHECK.due("21 work stays", x.work(0), 3);
        x.change(1, 1);
        CHECK.due("20 a new one", x.told(2, 0), -1);
    }

    private static void firstRopeAndDrum() {
        StageMachine x = new StageMachine();
        x.thing(50, 5, 95, 10);
        x.thing(150, 5, 95, 10);
        x.drum(1);
        x.drum(20);
        x.drum(10);
        x.drum(20);
        x.drum(10);
        x.rope(1, 11, 99);
        x.rope(0, 11, 9);
        x.rope(0, 21, 4);
        x.rope(0, 12, 99);
        x.rope(0, 21, 5);
        x.rope(0, 11, 99);
        x.scene(0, 0, 60);
        CHECK.due("19 found", x.change(0, 100), 1);
        CHECK.row("20 spare counts, the least rope", new int[] {x.told(0, 0), x.told(0, 1)}, 4, 1);
        x.tie(4, 0);
        CHECK.due("19 a tied one serves", x.change(0, 100), 1);
        CHECK.due("20 it", x.told(0, 0), 4);
        x.snap(4);
        CHECK.due("19 without the gone one", x.change(0, 100), 1);
        CHECK.row("20 the next rope, the least drum", new int[] {x.told(0, 0), x.told(0, 1)}, 5, 2);
        CHECK.due("19 the other way, by steps back", x.change(0, -100), 1);
        CHECK.row("20 the left rope", new int[] {x.told(0, 0), x.told(0, 1)}, 3, 2);
    }

    private static void notFound() {
        StageMachine x = four();
        for (int i = 0; i < 4; i++) {
            x.scene(0, i, i == 0 || i == 3 ? 60 : 61);
        }
        CHECK.due("19 not", x.change(0, 100), StageMachine.NOT);
        CHECK.row("20 ropes", new int[] {x.told(0, 0), x.told(1, 0), x.told(2, 0), x.told(3, 0)}, 0, -2, -1, -1);
        CHECK.row("20 drums", new int[] {x.told(0, 1), x.told(1, 1), x.told(2, 1), x.told(3, 1)}, 0, -2, -1, -1);
        CHECK.due("21 work", x.work(0), -2);
        CHECK.due("21 things", x.work(1), -2);
        CHECK.due("21 what 2", x.work(2), StageMachine.BAD);
        CHECK.due("22 men", x.men(99), StageMachine.NOT);
        CHECK.due("22 BAD ahead of NOT", x.men(100), StageMachine.BAD);
    }

    private static void work() {
        StageMachine x = four();
        for (int i = 0; i < 4; i++) {
            x.scene(0, i, 60);
        }
        x.rope(1, 12, 99);
        x.rope(3, 12, 99);
        CHECK.due("21 before any", x.work(0), StageMachine.BAD);
        x.change(0, 100);
        CHECK.row("21 none is tied", new int[] {x.work(0), x.work(1)}, 12, 4);
        x.tie(0, 0);
        x.change(0, 100);
        CHECK.row("21 one is ready", new int[] {x.work(0), x.work(1)}, 9, 3);
        x.tie(4, 0);
        x.change(0, 100);
        CHECK.row("21 one has another rope", new int[] {x.work(0), x.work(1)}, 11, 3);
        x.tie(2, 1);
        x.change(0, 100);
        CHECK.row("21 one is at another drum", new int[] {x.work(0), x.work(1)}, 13, 3);
        x.turn(1);
        x.change(0, 100);
        CHECK.row("21 DONE is not 0", new int[] {x.work(0), x.work(1)}, 18, 4);
        x.turn(-1);
        x.tie(3, 0);
        x.scene(0, 3, 50);
        x.scene(0, 1, -1);
        x.change(0, 100);
        CHECK.row("21 tied ones that are not to be moved", new int[] {x.work(0), x.work(1)}, 2 + 5 + 2, 3);
        CHECK.due("21 what -1", x.work(-1), StageMachine.BAD);
    }

    private static void workIsOfTheChange() {
        StageMachine x = four();
        x.scene(0, 0, 60);
        x.change(0, 100);
        x.tie(0, 0);
        x.tie(1, 0);
        CHECK.row("21 as it was asked for", new int[] {x.work(0), x.work(1)}, 3, 1);
        CHECK.due("22 as it was asked for", x.men(3), 1);
    }

    /** Each change() counts its own works, whatever the one before it had. */
    private static void workAnew() {
        StageMachine x = works(4, 3, 2);
        for (int i = 0; i < 3; i++) {
            CHECK.row("21 the same change again", new int[] {x.change(0, 100), x.work(0), x.work(1), x.men(27), x.men(26)},
                5, 27, 9, 1, 2);
        }
        CHECK.row("21 nothing is to be moved: the tied ones are untied", new int[] {x.change(1, 100), x.work(0), x.work(1)},
            0, 12, 6);
        x.scene(1, 0, 99 - 2);
        CHECK.row("21 NOT", new int[] {x.change(1, 100), x.work(0), x.work(1)}, StageMachine.NOT, -2, -2);
        CHECK.row("21 and found again", new int[] {x.change(0, 100), x.work(0), x.work(1)}, 5, 27, 9);
    }

    /** So many works of 2, 3 and 5 minutes in a change by 100 steps. */
    private static StageMachine works(int twos, int threes, int fives) {
        StageMachine x = new StageMachine();
        x.drum(10);
        x.drum(1);
        int all = twos + threes + fives;
        for (int i = 0; i < all; i++) {
            x.thing(100 * (i % 16) + 50 * (i / 16), 2, 98, 1);
            x.rope(i, 11, 9);
            if (i >= threes) {
                x.tie(i, 1);
            }
            if (i < threes + fives) {
                x.scene(0, i, 50 * (i / 16) + 10);
            }
        }
        CHECK.due("19 works", x.change(0, 100), threes + fives);
        CHECK.due("21 works", x.work(1), all);
        return x;
    }

    private static void men() {
        StageMachine x = works(0, 0, 0);
        CHECK.due("22 no work", x.men(1), 0);
        x = works(1, 0, 0);
        CHECK.row("22 one of 2", new int[] {x.men(1), x.men(2)}, StageMachine.NOT, 1);
        x = works(0, 1, 0);
        CHECK.row("22 one of 3", new int[] {x.men(2), x.men(3)}, StageMachine.NOT, 1);
        x = works(3, 0, 0);
        CHECK.row("22 three of 2", new int[] {x.men(1), x.men(2), x.men(3), x.men(4), x.men(6)},
            StageMachine.NOT, 3, 3, 2, 1);
        x = works(0, 4, 0);
        CHECK.row("22 four of 3", new int[] {x.men(2), x.men(3), x.men(5), x.men(6), x.men(11), x.men(12)},
            StageMachine.NOT, 4, 4, 2, 2, 1);
        x = works(1, 1, 1);
        CHECK.row("22 one of each", new int[] {x.men(4), x.men(5), x.men(9), x.men(10), x.men(99)},
            StageMachine.NOT, 2, 2, 1, 1);
    }

    private static void menShareExactly() {
        StageMachine x = works(3, 2, 0);
        CHECK.due("22 6 and 6, not 5, 5 and 2", x.men(6), 2);
        x = works(4, 4, 4);
        CHECK.due("22 12 works: 40 minutes by 4", x.men(10), 4);
        CHECK.due("22 12 works: 40 minutes by 5", x.men(8), 5);
        CHECK.due("22 12 works: by 6 men", x.men(7), 6);
        CHECK.due("22 12 works: a man for each 5", x.men(6), 8);
        CHECK.due("22 12 works in 5 minutes", x.men(5), 8);
        CHECK.due("22 12 works in 13 minutes", x.men(13), 4);
        CHECK.due("22 12 works in 14 minutes", x.men(14), 3);
        CHECK.due("22 12 works in 40 minutes", x.men(40), 1);
        CHECK.due("22 12 works in 39 minutes", x.men(39), 2);
        x = works(0, 0, 12);
        CHECK.due("22 twelve of 5 in 9 minutes", x.men(9), 12);
        CHECK.due("22 twelve of 5 in 99 minutes", x.men(99), 1);
    }

    /** All of up to 12 works of the three kinds, for each time, beside a plain search. */
    private static void menOfAllWorks() {
        for (int twos = 0; twos <= 12; twos++) {
            for (int threes = 0; twos + threes <= 12; threes++) {
                for (int fives = 0; twos + threes + fives <= 12; fives++) {
                    menOf(twos, threes, fives);
                }
            }
        }
    }

    private static void menOf(int twos, int threes, int fives) {
        StageMachine x = works(twos, threes, fives);
        int longest = fives > 0 ? 5 : threes > 0 ? 3 : twos > 0 ? 2 : 0;
        for (int t = 1; t <= 2 * twos + 3 * threes + 5 * fives + 1; t++) {
            int men = 0;
            while (longest <= t && !canShare(new int[men], twos, threes, fives, t)) {
                men++;
            }
            CHECK.due("22 " + twos + " of 2, " + threes + " of 3, " + fives + " of 5 in " + t, x.men(t),
                longest > t ? StageMachine.NOT : men);
        }
    }

    /** The longest works first, each to one man after the other, of those with as many minutes to one alone. */
    private static boolean canShare(int[] loads, int twos, int threes, int fives, int t) {
        int minutes = fives > 0 ? 5 : threes > 0 ? 3 : 2;
        if (twos + threes + fives == 0) {
            return true;
        }
        for (int man = 0; man < loads.length; man++) {
            boolean alike = false;
            for (int i = 0; i < man; i++) {
                alike |= loads[i] == loads[man];
            }
            if (!alike && loads[man] + minutes <= t) {
                loads[man] += minutes;
                boolean can = canShare(loads, twos - (minutes == 2 ? 1 : 0), threes - (minutes == 3 ? 1 : 0),
                    fives - (minutes == 5 ? 1 : 0), t);
                loads[man] -= minutes;
                if (can) {
                    return true;
                }
            }
        }
        return false;
    }

    private static void menRefused() {
        StageMachine x = works(5, 4, 3);
        CHECK.due("22 t 0", x.men(0), StageMachine.BAD);
        CHECK.due("22 t 100", x.men(100), StageMachine.BAD);
        CHECK.due("22 t -1", x.men(-1), StageMachine.BAD);
        CHECK.due("22 twelve", x.men(36 - 1), 2);
        x = works(5, 5, 3);
        CHECK.due("22 thirteen", x.men(50), StageMachine.BIG);
        CHECK.due("22 NOT ahead of BIG", x.men(4), StageMachine.NOT);
        CHECK.due("22 BAD ahead of BIG", x.men(0), StageMachine.BAD);
        x = works(20, 0, 0);
        CHECK.due("22 twenty", x.men(2), StageMachine.BIG);
        CHECK.due("22 twenty, none", x.men(1), StageMachine.NOT);
    }
}
