/** For each promise calls whose answers were worked out by hand: ordinary ones, the edges, wrong inputs. */
public final class PromisesTest {
    static final int BEYOND = -1000001, FULL = -1000002, KIND = -1000003, NONE = -1000004, STATE = -1000005,
            MISSING = -1000006, SIZE = -1000007;
    static final int TENT = 0, ELDERLY = 1, PROPHET = 2, MUTE = 3, DOUBTING = 4, CONTRARY = 5, FARSIGHTED = 6;

    static int promise;
    static int asked;
    static int wrong;

    static void due(String what, int got, int want) {
        asked++;
        if (got != want) {
            wrong++;
            System.out.println("promise " + promise + ": " + what + " answered " + got + ", due is " + want);
        }
    }

    /** Tents by kind, x and y in turn. */
    static NearestTents camp(int... kindXY) {
        NearestTents c = new NearestTents();
        for (int i = 0; i < kindXY.length; i += 3) {
            c.tent(kindXY[i], kindXY[i + 1], kindXY[i + 2]);
        }
        return c;
    }

    /** 0 and 1 are a pair, 2 hears 1, 3 hears 2. */
    static NearestTents row() {
        return camp(TENT, 0, 0, TENT, 1, 0, TENT, 3, 0, TENT, 6, 0);
    }

    /** As row(), and 0 says 1: 1, 2, 5, 10, 5, 10, .. is said then. */
    static NearestTents rowOn() {
        NearestTents c = row();
        c.change(0, 3, 1);
        return c;
    }

    /** A mute one that says 1, a mute one that says 0, and a tent next to the latter. */
    static NearestTents betweenMutes() {
        NearestTents c = camp(MUTE, 0, 0, MUTE, 4, 0, TENT, 3, 0);
        c.change(0, 3, 1);
        return c;
    }

    static NearestTents ten() {
        NearestTents c = new NearestTents();
        for (int i = 0; i < 10; i++) {
            c.tent(TENT, i, 11);
        }
        return c;
    }

    static int fed(NearestTents c, String text) {
        for (int i = 0; i < text.length(); i++) {
            c.feed(text.charAt(i), 1);
        }
        return c.text();
    }

    static void p1NewObject() {
        NearestTents c = new NearestTents();
        int[] first = {0, 0, 0, 0, 0, 0, 1, 0};
        for (int what = 0; what < 8; what++) {
            due("count(" + what + ")", c.count(what), first[what]);
        }
        due("status(-1)", c.status(-1), 0);
        due("wall(2, 1)", c.wall(2, 1), 1);
        due("undo()", c.undo(), NONE);
        due("tear()", c.tear(), 0);
        for (int i = 0; i < 4; i++) {
            due("judge", c.judge(i), MISSING);
        }
        for (int i = 0; i < 10; i++) {
            due("as", c.as(i, 0), MISSING);
        }
    }

    static void p2Tent() {
        NearestTents c = new NearestTents();
        due("kind -1", c.tent(-1, 0, 0), BEYOND);
        due("kind 7", c.tent(7, 0, 0), BEYOND);
        due("x -1", c.tent(0, -1, 0), BEYOND);
        due("x 12", c.tent(0, 12, 0), BEYOND);
        due("y -1", c.tent(0, 0, -1), BEYOND);
        due("y 12", c.tent(0, 0, 12), BEYOND);
        due("count(1)", c.count(1), 0);
        due("first", c.tent(6, 11, 11), 0);
        due("second", c.tent(0, 0, 11), 1);
        due("there is one", c.tent(0, 11, 11), STATE);
        due("beyond ahead of state", c.tent(7, 11, 11), BEYOND);
        for (int i = 2; i < 10; i++) {
            due("tent " + i, c.tent(i % 7, i, 0), i);
        }
        due("an 11th", c.tent(0, 5, 5), FULL);
        due("state ahead of full", c.tent(0, 11, 11), STATE);
        due("count(1)", c.count(1), 10);
        due("says 0 at first", c.of(9, 3), 0);
    }

    static void p3Of() {
        NearestTents c = row();
        c.move(3, 6, 2);
        int[][] all = {{0, 0, 0, 0, 1, 0, 0, 14}, {0, 1, 0, 0, 0, 0, 0, 13}, {0, 3, 0, 0, 1, 0, 1, 8}, {0, 6, 2, 0, 2, 0, 2, 0}};
        for (int t = 0; t < 4; t++) {
            for (int what = 0; what < 8; what++) {
                due("of(" + t + ", " + what + ")", c.of(t, what), all[t][what]);
            }
        }
        due("of(4, 0)", c.of(4, 0), BEYOND);
        due("of(-1, 0)", c.of(-1, 0), BEYOND);
        due("of(0, 8)", c.of(0, 8), BEYOND);
        due("of(0, -1)", c.of(0, -1), BEYOND);
        NearestTents alone = camp(CONTRARY, 3, 4);
        due("alone, hears", alone.of(0, 4), -1);
        due("alone, contrary, will say", alone.of(0, 5), 0);
        due("alone, line", alone.of(0, 6), -1);
        NearestTents ring = camp(FARSIGHTED, 0, 0, ELDERLY, 10, 0, TENT, 11, 0);
        due("0 of a ring hears", ring.of(0, 4), 2);
        due("1 of a ring hears", ring.of(1, 4), 0);
        due("2 of a ring hears", ring.of(2, 4), 1);
        due("line in a ring", ring.of(1, 6), -1);
        due("followers in a ring", ring.of(1, 7), 5);
        hearsByKind();
        willSayByKind();
    }

    static void hearsByKind() {
        NearestTents c = camp(TENT, 0, 5, TENT, 5, 0, TENT, 5, 5, TENT, 6, 5, TENT, 11, 5);
        int[] hears = {3, 0, 3, 3, 0, 3, 4};
        for (int kind = 0; kind < 7; kind++) {
            c.change(2, 0, kind);
            due("kind " + kind + " hears", c.of(2, 4), hears[kind]);
        }
        NearestTents ties = camp(TENT, 5, 6, TENT, 5, 4, TENT, 4, 5, TENT, 5, 5, TENT, 5, 11, TENT, 11, 5);
        due("of several nearest", ties.of(3, 4), 0);
        ties.change(3, 0, FARSIGHTED);
        due("of several most far", ties.of(3, 4), 4);
        ties.change(0, 0, DOUBTING);
        due("the eldest, doubting", ties.of(0, 4), -1);
        ties.change(0, 0, ELDERLY);
        due("the eldest, elderly", ties.of(0, 4), -1);
    }

    /** 2 has 0 as the nearest elder and 3 as its nearest; said: by 0, 2 and 3. */
    static void willSayByKind() {
        int[][] due = {
            {0, 0, 0, 0, 0, 1, 0, 0, 1, 1}, {0, 0, 1, 1, 0, 1, 0, 0, 0, 1}, {0, 1, 0, 0, 0, 1, 1, 0, 1, 1}, {0, 1, 1, 1, 0, 1, 1, 1, 0, 1},
            {1, 0, 0, 0, 1, 1, 0, 0, 1, 0}, {1, 0, 1, 1, 1, 1, 0, 1, 0, 0}, {1, 1, 0, 0, 1, 1, 1, 1, 1, 0}, {1, 1, 1, 1, 1, 1, 1, 1, 0, 0}};
        for (int[] d : due) {
            NearestTents c = camp(TENT, 0, 5, TENT, 5, 0, TENT, 5, 5, TENT, 6, 5);
            c.move(0, 0, 5);
            c.move(1, 11, 11);
            c.change(0, 3, d[0]);
            c.change(2, 3, d[1]);
            c.change(3, 3, d[2]);
            for (int kind = 0; kind < 6; kind++) {
                c.change(2, 0, kind);
                due("said " + d[0] + d[1] + d[2] + ", kind " + kind, c.of(2, 5), d[3 + kind]);
            }
            c.move(1, 5, 6);
            c.move(0, 0, 0);
            c.change(2, 0, FARSIGHTED);
            due("said " + d[0] + d[1] + d[2] + ", kind 6", c.of(2, 5), d[9]);
        }
    }

    static void p4Change() {
        NearestTents c = row();
        due("kind", c.change(1, 0, FARSIGHTED), TENT);
        due("kind again", c.change(1, 0, MUTE), FARSIGHTED);
        due("says", c.change(2, 3, 1), 0);
        due("says again", c.change(2, 3, 1), 1);
        due("back", c.change(2, 3, 0), 1);
        due("kind 7", c.change(0, 0, 7), BEYOND);
        due("kind -1", c.change(0, 0, -1), BEYOND);
        due("says 2", c.change(0, 3, 2), BEYOND);
        due("says -1", c.change(0, 3, -1), BEYOND);
        due("x", c.change(0, 1, 0), BEYOND);
        due("tent 4", c.change(4, 0, 0), BEYOND);
        due("tent -1", c.change(-1, 3, 0), BEYOND);
        due("of(1, 0)", c.of(1, 0), MUTE);
        due("now(1)", c.now(1), 0);
    }

    static void p5Move() {
        NearestTents c = row();
        due("far", c.move(3, 9, 4), 25);
        due("x", c.of(3, 1), 9);
        due("y", c.of(3, 2), 4);
        due("to its own yard", c.move(3, 9, 4), 0);
        due("to another one's", c.move(3, 0, 0), STATE);
        due("x 12", c.move(3, 12, 0), BEYOND);
        due("y -1", c.move(3, 0, -1), BEYOND);
        due("tent 4", c.move(4, 5, 5), BEYOND);
        due("on(9, 4)", c.on(9, 4), 3);
        c.wall(0, 5);
        c.wall(1, 1);
        due("by the bridge", c.move(3, 4, 4), (5 + 3 + 3) * (5 + 3 + 3));
        due("on(9, 4)", c.on(9, 4), NONE);
    }

    static void p6Wall() {
        NearestTents c = row();
        due("wall", c.wall(0, 11), 0);
        due("wall again", c.wall(0, 0), 11);
        due("bridge", c.wall(1, 11), 0);
        due("bridge again", c.wall(1, 3), 11);
        due("counted", c.wall(2, 0), 1);
        due("counted again", c.wall(2, 1), 0);
        due("counted a third time", c.wall(2, 1), 1);
        due("wall 12", c.wall(0, 12), BEYOND);
        due("wall -1", c.wall(0, -1), BEYOND);
        due("bridge 12", c.wall(1, 12), BEYOND);
        due("bridge -1", c.wall(1, -1), BEYOND);
        due("counted 2", c.wall(2, 2), BEYOND);
        due("counted -1", c.wall(2, -1), BEYOND);
        due("what 3", c.wall(3, 0), BEYOND);
        due("what -1", c.wall(-1, 0), BEYOND);
        due("count(4)", c.count(4), 3);
    }

    static void p7On() {
        NearestTents c = row();
        due("on(3, 0)", c.on(3, 0), 2);
        due("on(0, 3)", c.on(0, 3), NONE);
        due("x 12", c.on(12, 0), BEYOND);
        due("x -1", c.on(-1, 1), BEYOND);
        due("y 12", c.on(0, 12), BEYOND);
        due("y -1", c.on(0, -1), BEYOND);
    }

    static void p8Far() {
        NearestTents c = camp(TENT, 2, 3, TENT, 5, 7, TENT, 4, 3);
        due("far(0, 1)", c.far(0, 1), 25);
        due("far(1, 0)", c.far(1, 0), 25);
        due("far(1, 1)", c.far(1, 1), 0);
        c.wall(1, 9);
        due("no wall", c.far(0, 1), 25);
        c.wall(0, 5);
        due("by the bridge", c.far(0, 1), (3 + 6 + 2) * (3 + 6 + 2));
        due("on one side", c.far(0, 2), 4);
        due("next to it", c.far(1, 2), (1 + 2 + 6) * (1 + 2 + 6));
        c.wall(0, 6);
        due("wall behind both", c.far(0, 1), 25);
        c.wall(0, 2);
        due("wall ahead of both", c.far(0, 1), 25);
        c.wall(0, 3);
        due("wall between 2 and 3", c.far(0, 2), (2 + 6 + 6) * (2 + 6 + 6));
        c.wall(2, 0);
        due("not counted", c.far(0, 2), 4);
        due("far(0, 3)", c.far(0, 3), BEYOND);
        due("far(3, 0)", c.far(3, 0), BEYOND);
        due("far(-1, 0)", c.far(-1, 0), BEYOND);
    }

    static void p9Nearest() {
        NearestTents c = row();
        c.change(3, 0, FARSIGHTED);
        c.change(0, 0, ELDERLY);
        due("of a farsighted", c.nearest(3), 2);
        due("of an elderly", c.nearest(0), 1);
        due("nearest(1)", c.nearest(1), 0);
        c.wall(0, 5);
        c.wall(1, 11);
        due("by the bridge", c.nearest(3), 2);
        c.move(2, 3, 11);
        c.wall(1, 0);
        due("by another bridge", c.nearest(3), 1);
        due("nearest(4)", c.nearest(4), BEYOND);
        due("nearest(-1)", c.nearest(-1), BEYOND);
        due("alone", camp(TENT, 1, 1).nearest(0), NONE);
    }

    static void p10Hearing() {
        NearestTents c = row();
        due("hearing(0)", c.hearing(0), 2);
        due("hearing(1)", c.hearing(1), 5);
        due("hearing(2)", c.hearing(2), 8);
        due("hearing(3)", c.hearing(3), 0);
        c.change(2, 0, PROPHET);
        due("a prophet hears, too", c.hearing(1), 5);
        due("hearing(4)", c.hearing(4), BEYOND);
        due("hearing(-1)", c.hearing(-1), BEYOND);
    }

    static void p11Days() {
        NearestTents c = rowOn();
        due("days(1)", c.days(1), 1);
        due("now(1)", c.now(1), 2);
        due("days(2)", c.days(2), 2);
        due("now(1)", c.now(1), 10);
        due("days(100000)", c.days(100000), 2);
        due("now(1)", c.now(1), 10);
        due("days(99999)", c.days(99999), 2);
        due("now(1)", c.now(1), 5);
        due("now(0)", c.now(0), 200002);
        due("days(0)", c.days(0), BEYOND);
        due("days(-1)", c.days(-1), BEYOND);
        due("days(100001)", c.days(100001), BEYOND);
        due("now(0)", c.now(0), 200002);
        lastDay();
    }

    /** More calls than an object is promised for, since the last day is not come to with less. */
    static void lastDay() {
        NearestTents c = new NearestTents();
        for (int i = 0; i < 9999; i++) {
            c.days(100000);
        }
        due("beyond the last day", c.days(100000), STATE);
        due("to the last day", c.days(99999), 0);
        due("count(0)", c.count(0), 999999999);
        due("a day more", c.days(1), STATE);
        due("beyond ahead of state", c.days(0), BEYOND);
        due("count(0)", c.count(0), 999999999);
    }

    static void p12Now() {
        NearestTents c = rowOn();
        c.change(3, 3, 1);
        int[] now = {0, 9, 2, 1, 3, 8, 2};
        for (int what = 0; what < 7; what++) {
            due("now(" + what + ")", c.now(what), now[what]);
        }
        due("now(7)", c.now(7), BEYOND);
        due("now(-1)", c.now(-1), BEYOND);
        NearestTents none = camp(ELDERLY, 0, 0, ELDERLY, 5, 5, ELDERLY, 6, 6);
        due("no pairs", none.now(3), 0);
        due("longest line without pairs", none.now(6), -1);
        due("unheard", none.now(5), 4);
        NearestTents two = camp(TENT, 0, 0, TENT, 11, 11, TENT, 1, 0, TENT, 10, 11);
        due("two pairs", two.now(3), 2);
        due("of pairs", two.now(4), 15);
        due("longest line of pairs alone", two.now(6), 0);
    }

    static void p13Says() {
        NearestTents c = rowOn();
        due("says(0, 0)", c.says(0, 0), 1);
        due("says(0, 1)", c.says(0, 1), 0);
        due("says(3, 2)", c.says(3, 2), 0);
        due("says(3, 3)", c.says(3, 3), 1);
        due("says(3, 999999)", c.says(3, 999999), 1);
        due("says(3, 999998)", c.says(3, 999998), 0);
        due("says(0, -1)", c.says(0, -1), BEYOND);
        due("says(0, 1000000)", c.says(0, 1000000), BEYOND);
        due("says(4, 0)", c.says(4, 0), BEYOND);
        due("says(-1, 0)", c.says(-1, 0), BEYOND);
        due("nothing changes", c.now(1), 1);
        due("nor the day", c.now(0), 0);
    }

    static void p14Saying() {
        NearestTents c = rowOn();
        int[] said = {1, 2, 5, 10, 5, 10};
        for (int n = 0; n < 6; n++) {
            due("saying(" + n + ")", c.saying(n), said[n]);
        }
        due("saying(999999)", c.saying(999999), 10);
        due("saying(999998)", c.saying(999998), 5);
        due("saying(1000000)", c.saying(1000000), BEYOND);
        due("saying(-1)", c.saying(-1), BEYOND);
        due("nothing changes", c.now(1), 1);
        NearestTents contrary = camp(CONTRARY, 0, 0, CONTRARY, 1, 0);
        due("contrary, odd", contrary.saying(999999), 3);
        due("contrary, even", contrary.saying(999998), 0);
    }

    static void p15Settles() {
        due("row", rowOn().settles(), 2);
        due("nothing is said", row().settles(), 0);
        due("no tents", new NearestTents().settles(), 0);
        due("a prophet", camp(PROPHET, 0, 0, TENT, 1, 0, TENT, 3, 0).settles(), 3);
    }

    static void p16Circle() {
        due("row", rowOn().circle(), 2);
        due("nothing is said", row().circle(), 1);
        due("no tents", new NearestTents().circle(), 1);
        due("a tent and a contrary one", camp(TENT, 0, 0, CONTRARY, 1, 0).circle(), 4);
        NearestTents ring = camp(FARSIGHTED, 0, 0, ELDERLY, 10, 0, TENT, 11, 0);
        due("a ring with a contrary one", ring.circle(), 6);
    }

    static void p17Mind() {
        NearestTents c = camp(PROPHET, 0, 0, TENT, 1, 0, TENT, 3, 0);
        due("all say 0 today, but not tomorrow", c.mind(), 3);
        c.days(2);
        due("a day ahead", c.mind(), 1);
        c.days(1);
        due("today", c.mind(), 0);
        due("never", rowOn().mind(), NONE);
        due("never, and nothing changes", betweenMutes().mind(), NONE);
        due("no tents", new NearestTents().mind(), NONE);
        due("one", camp(TENT, 4, 4).mind(), 0);
        due("to and fro, but together", camp(CONTRARY, 0, 0, CONTRARY, 1, 0).mind(), 0);
        due("together but for one day of a circle", camp(TENT, 0, 0, CONTRARY, 1, 0).mind(), NONE);
    }

    static void p18Least() {
        NearestTents c = betweenMutes();
        due("least(1)", c.least(1), 1);
        due("least(60)", c.least(60), 1);
        c.wall(0, 3);
        c.wall(1, 5);
        due("by the bridge", c.least(1), 36);
        c.change(1, 3, 1);
        due("so without", c.least(1), 0);
        due("n 0", c.least(0), BEYOND);
        due("n 61", c.least(61), BEYOND);
        due("half is not more than half", camp(PROPHET, 0, 0, MUTE, 5, 5).least(9), NONE);
        due("no tents", new NearestTents().least(1), NONE);
        due("nothing changes", c.of(2, 1), 3);
    }

    static void p19Whom() {
        NearestTents c = betweenMutes();
        due("whom(1)", c.whom(1), 2002);
        c.wall(0, 3);
        c.wall(1, 5);
        due("by the bridge", c.whom(60), 2062);
        c.wall(0, 0);
        c.move(1, 3, 1);
        c.move(2, 2, 0);
        c.move(1, 3, 0);
        due("of several the first tent", c.whom(1), 1);
        c.change(1, 3, 1);
        due("so without", c.whom(1), NONE);
        due("n 0", c.whom(0), BEYOND);
        due("n 61", c.whom(61), BEYOND);
        due("no way", camp(PROPHET, 0, 0, MUTE, 5, 5).whom(9), NONE);
        NearestTents yards = camp(MUTE, 1, 5, MUTE, 5, 5, TENT, 5, 4);
        yards.change(0, 3, 1);
        yards.move(1, 5, 6);
        yards.move(0, 5, 0);
        due("of several the first yard", yards.whom(1), 2000 + 12 * 3 + 5);
    }

    static void p20Place() {
        due("between two", camp(TENT, 0, 0, TENT, 2, 0).place(), 1);
        due("none will hear it: the first free one", camp(ELDERLY, 0, 0, ELDERLY, 2, 0).place(), 1);
        due("no tents", new NearestTents().place(), 0);
        due("ten tents", ten().place(), STATE);
        NearestTents c = camp(TENT, 5, 5, TENT, 5, 8);
        due("nearer than three", c.place(), 12 * 3 + 3);
        due("nothing changes", c.count(1), 2);
    }

    static void p21Leads() {
        due("between two", camp(TENT, 0, 0, TENT, 2, 0).leads(), 2);
        due("elderly ones alone", camp(ELDERLY, 0, 0, ELDERLY, 2, 0).leads(), 0);
        due("as near is not nearer", camp(TENT, 0, 0, TENT, 1, 0).leads(), 0);
        due("no tents", new NearestTents().leads(), 0);
        due("ten tents", ten().leads(), STATE);
        NearestTents c = camp(TENT, 5, 5, TENT, 6, 5);
        c.wall(0, 6);
        due("parted by a wall", c.leads(), 2);
    }

    static void p22Changed() {
        NearestTents c = row();
        due("away", c.changed(1, 11, 11), 5);
        due("its own yard", c.changed(1, 1, 0), 0);
        due("it alone hears another one", c.changed(3, 0, 1), 0);
        due("another one is there", c.changed(1, 0, 0), STATE);
        due("x 12", c.changed(1, 12, 0), BEYOND);
        due("y -1", c.changed(1, 0, -1), BEYOND);
        due("tent 4", c.changed(4, 5, 5), BEYOND);
        due("nothing changes", c.of(1, 1), 1);
    }

    static void p23Still() {
        due("one", camp(TENT, 5, 5).still(0), 143);
        due("two", camp(TENT, 5, 5, TENT, 0, 0).still(1), 142);
        NearestTents c = camp(TENT, 0, 0, TENT, 1, 0, TENT, 3, 0);
        due("as long as it is nearer to 1", c.still(2), 130);
        due("still(3)", c.still(3), BEYOND);
        due("still(-1)", c.still(-1), BEYOND);
        due("nothing changes", c.of(2, 1), 3);
    }

    static void p24Key() {
        due("the first", camp(TENT, 0, 0, ELDERLY, 1, 0, ELDERLY, 5, 0).key(), 0);
        due("of two as good the first", camp(ELDERLY, 0, 0, TENT, 5, 0, ELDERLY, 6, 0).key(), 1);
        due("the last", camp(ELDERLY, 3, 3, TENT, 1, 0, TENT, 5, 0, TENT, 3, 0).key(), 3);
        due("one", camp(TENT, 0, 0).key(), 0);
        due("no tents", new NearestTents().key(), NONE);
        NearestTents c = row();
        due("all as good", c.key(), 0);
        due("nothing changes", c.count(1), 4);
    }

    static void p25Leader() {
        due("of two as good the first", row().leader(), 0);
        due("not the first", camp(ELDERLY, 0, 0, TENT, 5, 0, ELDERLY, 6, 0).leader(), 1);
        due("that of the longer line", camp(ELDERLY, 0, 0, ELDERLY, 1, 0, TENT, 10, 0, TENT, 11, 0, TENT, 9, 0).leader(), 2);
        due("no tents", new NearestTents().leader(), NONE);
    }

    static void p26Walled() {
        NearestTents c = camp(TENT, 0, 0, TENT, 1, 0, TENT, 2, 0);
        due("no wall", c.walled(), 0);
        c.wall(0, 1);
        c.wall(1, 11);
        due("counted", c.walled(), 2);
        c.wall(2, 0);
        due("not counted", c.walled(), 2);
        due("it stays so", c.wall(2, 0), 0);
        due("no tents", new NearestTents().walled(), 0);
    }

    static void p27Law() {
        NearestTents c = camp(TENT, 0, 0, MUTE, 1, 0);
        due("none says 1", c.law(1), PROPHET);
        c.change(0, 3, 1);
        due("the elder says 1", c.law(1), ELDERLY);
        c.change(1, 3, 1);
        due("both", c.law(60), TENT);
        due("n 0", c.law(0), BEYOND);
        due("n 61", c.law(61), BEYOND);
        due("no tents", new NearestTents().law(1), TENT);
        due("nothing changes", c.of(1, 0), MUTE);
    }

    static void p28Heard() {
        NearestTents c = row();
        due("a day ahead", c.heard(1), 1);
        due("two days ahead", c.heard(2), 0);
        due("three days ahead", c.heard(3), 0);
        NearestTents behind = camp(TENT, 11, 11, MUTE, 0, 0, TENT, 1, 0, TENT, 3, 0);
        due("one that all are behind", behind.heard(3), 1);
        due("one that says it no more", camp(TENT, 0, 0, PROPHET, 1, 0).heard(2), 0);
        due("n 0", c.heard(0), BEYOND);
        due("n 61", c.heard(61), BEYOND);
        due("no tents", new NearestTents().heard(1), NONE);
        due("beyond ahead of none", new NearestTents().heard(61), BEYOND);
        due("nothing changes", c.now(1), 0);
    }

    static void p29Follows() {
        NearestTents c = rowOn();
        c.change(2, 3, 1);
        due("one who says 1", c.follows(0, 10), 10);
        due("one who says 0", c.follows(1, 10), 5);
        due("not itself", c.follows(0, 1), 0);
        due("none said 1", c.follows(1, 0), 13);
        due("tent 4", c.follows(4, 0), BEYOND);
        due("tent -1", c.follows(-1, 0), BEYOND);
        due("bits of no tent", c.follows(0, 16), BEYOND);
        due("bits below 0", c.follows(0, -1), BEYOND);
        due("the topmost bit", c.follows(0, Integer.MIN_VALUE), BEYOND);
        due("ten tents", ten().follows(9, 1023), 0);
        due("ten tents, bits of no tent", ten().follows(9, 1024), BEYOND);
    }

    static void p30Moves() {
        NearestTents c = betweenMutes();
        due("all staying", c.moves(1, 0), 1);
        due("not all staying", c.moves(5, 0), 0);
        due("one away", c.moves(5, 1), 2);
        due("two away", c.moves(5, 2), 10);
        due("never", c.moves(7, 2), 0);
        due("d 3", c.moves(5, 3), BEYOND);
        due("d -1", c.moves(5, -1), BEYOND);
        due("bits of no tent", c.moves(8, 1), BEYOND);
        due("bits below 0", c.moves(-1, 0), BEYOND);
        due("nothing changes", c.moves(1, 0), 1);
        NearestTents two = camp(TENT, 0, 0, TENT, 1, 0);
        due("all free ones next to two", two.moves(0, 1), 6);
        due("all free ones two away", two.moves(0, 2), 17);
        due("no tents, staying", new NearestTents().moves(0, 0), 1);
        due("no tents, moved", new NearestTents().moves(0, 1), 0);
    }

    static void p31Moved() {
        NearestTents c = betweenMutes();
        due("all staying", c.moved(1, 0), 0);
        due("not all staying", c.moved(5, 0), NONE);
        due("one away", c.moved(5, 1), 2002);
        due("two away", c.moved(5, 2), 2);
        due("never", c.moved(7, 2), NONE);
        due("d 3", c.moved(5, 3), BEYOND);
        due("d -1", c.moved(5, -1), BEYOND);
        due("bits of no tent", c.moved(8, 1), BEYOND);
        NearestTents two = camp(TENT, 0, 0, TENT, 1, 0);
        due("the first next to it", two.moved(0, 1), 12);
        due("the first two away", two.moved(0, 2), 2);
    }

    static int z;

    static int draw() {
        z = z * 1103515245 + 12345;
        return z >>> 8;
    }

    static void p32Strew() {
        NearestTents c = camp(TENT, 0, 0, TENT, 1, 0, TENT, 3, 0);
        int[] yards = {0, 1, 3};
        c.seed(-77);
        z = -77;
        for (int i = 0; i < 12; i++) {
            int tent = draw() % 3;
            int yard = draw() % 144;
            yards[tent] = yard == yards[0] || yard == yards[1] || yard == yards[2] ? yards[tent] : yard;
        }
        due("three tents: always a pair", c.strew(12), 1);
        for (int t = 0; t < 3; t++) {
            due("yard of " + t, 12 * c.of(t, 2) + c.of(t, 1), yards[t]);
        }
        due("z", c.count(6), z);
        due("n 0", c.strew(0), BEYOND);
        due("n 13", c.strew(13), BEYOND);
        due("no tents", new NearestTents().strew(1), STATE);
        due("beyond ahead of state", new NearestTents().strew(13), BEYOND);
        due("elderly ones: no pairs", camp(ELDERLY, 0, 0, ELDERLY, 1, 0).strew(1), 0);
        blockedStrew();
    }

    /** A seed whose first draw is tent 1 and whose second is the yard of tent 0, and then one of its own. */
    static void blockedStrew() {
        int seed = 0;
        for (; seed < 100000; seed++) {
            z = seed;
            if (draw() % 2 == 1 && draw() % 144 == 50) {
                break;
            }
        }
        NearestTents c = camp(TENT, 2, 4, TENT, 0, 0);
        c.seed(seed);
        due("blocked", c.strew(1), 1);
        due("it stays", c.of(1, 1), 0);
        due("both draws are made", c.count(6), z);
    }

    static void p33Camps() {
        NearestTents c = camp(TENT, 0, 0, TENT, 1, 0, MUTE, 3, 0);
        c.change(1, 3, 1);
        z = 1;
        for (int i = 0; i < 36; i++) {
            draw();
        }
        due("three tents: a pair each time", c.camps(12), 12);
        due("z", c.count(6), z);
        due("put back", c.of(2, 1) + 100 * c.of(1, 1), 103);
        due("put back, what is said", c.now(1), 2);
        due("n 0", c.camps(0), BEYOND);
        due("n 13", c.camps(13), BEYOND);
        due("no tents", new NearestTents().camps(1), STATE);
        due("beyond ahead of state", new NearestTents().camps(0), BEYOND);
        due("elderly ones: no pairs", camp(ELDERLY, 0, 0, ELDERLY, 1, 0).camps(12), 0);
    }

    static void p34Seed() {
        NearestTents c = new NearestTents();
        due("z at first", c.seed(-1000005), 1);
        due("any int", c.seed(7), -1000005);
        due("count(6)", c.count(6), 7);
        c.seed(-1000001);
        due("count(6), like a finding", c.count(6), -1000001);
        due("that is none", c.status(-1), 0);
    }

    static void p35Feed() {
        NearestTents c = new NearestTents();
        due("n 0", c.feed(0, 0), BEYOND);
        due("n 5", c.feed(0, 5), BEYOND);
        due("the lowest bytes, the highest first", c.feed(0x7a7a6672, 2), 2);
        due("behind them", c.feed(0x6565, 2), 4);
        due("text()", c.text(), 1);
        due("free was told", c.wall(2, 1), 0);
        for (int i = 1; i <= 29; i++) {
            due("four more", c.feed(-1, 4), 4 * i);
        }
        due("three more", c.feed(0, 3), 119);
        due("two are too many", c.feed(0, 2), FULL);
        due("one is not", c.feed(0, 1), 120);
        due("one more is", c.feed(0, 1), FULL);
        due("beyond ahead of full", c.feed(0, 0), BEYOND);
        due("count(5)", c.count(5), 120);
    }

    static void p36Wipe() {
        NearestTents c = new NearestTents();
        due("nothing", c.wipe(), 0);
        c.feed(0x66726565, 4);
        due("four", c.wipe(), 4);
        due("empty then", c.count(5), 0);
        due("not a text", c.text(), -1);
    }

    static void p37Text() {
        NearestTents c = new NearestTents();
        due("all kinds", fed(c, "tent at 0 0;elderly at 1 0 on;prophet at 2 0;mute at 3 0;doubting at 4 0"), 5);
        due("and more", fed(c, "  contrary at5 0on ; farsighted at 006 11 on;wall 7 bridge 9;free;wall 8;counted;free "), 7);
        for (int t = 0; t < 7; t++) {
            due("kind of " + t, c.of(t, 0), t);
            due("x of " + t, c.of(t, 1), t);
        }
        due("y of 6", c.of(6, 2), 11);
        due("now(1)", c.now(1), 2 + 32 + 64);
        due("wall", c.count(3), 8);
        due("bridge", c.count(4), 9);
        due("not counted", c.wall(2, 1), 0);
        due("no findings", c.status(-1), 0);
        faults();
        noEleventh();
    }

    static void faults() {
        String[] texts = {"", "   ", "tents at 0 0", "tent", "tent ", "tent on 1 1", "tent at", "tent at 12 0", "tent at 0 12", "tent at 0", "tent at 0;",
            "tent at 0 1 on on", "tent at 0 1 of", "tent at 0 1;", "tent at 0 1;;", ";", "tent at 0 1 2", "wall", "wall 12", "wall 1 2", "wall 1 bridge",
            "wall 1 bridge 12", "wall 1 bridge 3 4", "bridge 1", "counted 1", "free free", "on", "at", "7", "Tent at 0 1", "tent at 0 1\t", "tent at\n0 1",
            "tent at 0 1 ON", "tent at -1 0", "tent at 4294967296 1", "tent at 0 1;tent at 1 1;tent at 0 1 on", "tent at 9 9;", "free\u00e6", "free;counte",
            "tent at 3 99999999999999999999", "wall 3;wall 999999999999999999999999999999", "freewall 3", "tentat 0 0", "tent at 0 1on3", "tent,at", "sent at 0 1",
            "fall 3", "freez", "afree", "wall 3 fridge 4", "tent it 0 1"};
        int[] faults = {0, 3, 0, 4, 5, 5, 7, 8, 10, 9, 9, 15, 12, 12, 12, 0, 12, 4, 5, 7, 13, 14, 16, 0, 8, 5, 0, 0, 0, 0, 11, 7, 12, 8, 8, 34, 12, 4, 5,
            10, 12, 0, 0, 13, 4, 0, 0, 0, 0, 7, 5};
        for (int i = 0; i < texts.length; i++) {
            NearestTents c = new NearestTents();
            due("\"" + texts[i] + "\"", fed(c, texts[i]), -1 - faults[i]);
            due("the tape is empty behind \"" + texts[i] + "\"", c.count(5), 0);
            due("no tents behind \"" + texts[i] + "\"", c.count(1), 0);
            due("no wall behind \"" + texts[i] + "\"", c.count(3) + c.count(4) + 1 - c.wall(2, 1), 0);
            due("no findings behind \"" + texts[i] + "\"", c.status(-1), 0);
        }
        NearestTents c = camp(TENT, 3, 4);
        due("a yard with a tent", fed(c, "wall 2;free;mute at 3 4 on"), -1 - 22);
        due("nothing changes", c.count(1) + 10 * c.count(3), 1);
        due("still counted", c.wall(2, 1), 1);
    }

    static void noEleventh() {
        NearestTents c = ten();
        due("the word of an 11th", fed(c, "wall 3; mute on"), -1 - 8);
        due("nothing changes", c.count(3), 0);
        due("no tent told", fed(c, "wall 3"), 1);
    }

    static void p38Hold() {
        NearestTents c = row();
        due("hold(9, 3)", c.hold(9, 3), 1);
        due("hold(0, 3)", c.hold(0, 3), 1);
        due("count(7)", c.count(7), 2);
        due("nothing", c.hold(9, -1), 1);
        due("count(7)", c.count(7), 1);
        due("tent 4", c.hold(0, 4), BEYOND);
        due("tent -2", c.hold(0, -2), BEYOND);
        due("spot 10", c.hold(10, 0), BEYOND);
        due("spot -1", c.hold(-1, -1), BEYOND);
        due("as(0, 0)", c.as(0, 0), 3);
    }

    static void p39As() {
        boolean[][] under = {{true}, {true, true}, {true, false, true}, {true, false, true, true}, {true, true, false, false, true},
            {true, false, false, false, false, true}, {true, false, false, false, false, true, true}};
        NearestTents c = new NearestTents();
        for (int kind = 0; kind < 7; kind++) {
            c.tent(kind, kind, 0);
            c.hold(9 - kind, kind);
            for (int as = 0; as < 7; as++) {
                boolean is = as < under[kind].length && under[kind][as];
                due("kind " + kind + " as " + as, c.as(9 - kind, as), is ? kind : KIND);
            }
        }
        due("it holds nothing", c.as(0, 0), MISSING);
        due("kind 7", c.as(9, 7), BEYOND);
        due("kind -1", c.as(0, -1), BEYOND);
        due("spot 10", c.as(10, 0), BEYOND);
        due("spot -1", c.as(-1, 0), BEYOND);
        c.change(0, 0, MUTE);
        due("of another kind now", c.as(9, MUTE), 0);
    }

    static void p40Sheet() {
        NearestTents c = new NearestTents();
        due("8 bits", c.sheet(0, 8, 40), 40);
        due("16 bits", c.sheet(1, 16, 0), 0);
        due("32 bits", c.sheet(3, 32, 7), 7);
        due("missing", c.sheet(0, 0, 40), 0);
        due("write", c.write(0, 0, 0), MISSING);
        due("an empty one is not missing", c.judge(1), 0);
        due("sheet 4", c.sheet(4, 8, 1), BEYOND);
        due("sheet -1", c.sheet(-1, 8, -1), BEYOND);
        due("bits 64", c.sheet(0, 64, -1), BEYOND);
        due("bits -8", c.sheet(0, -8, 1), BEYOND);
        due("n -1", c.sheet(3, 8, -1), SIZE);
        due("n -1, bits 0", c.sheet(3, 0, -1), SIZE);
        due("n 41", c.sheet(3, 8, 41), BEYOND);
        due("n 41, bits 0", c.sheet(3, 0, 41), BEYOND);
        due("nothing changes", c.write(3, 6, 5), 1);
        due("not 0", c.judge(3), 7);
        c.sheet(3, 32, 7);
        due("all 0", c.judge(3), 0);
    }

    static void p41Write() {
        NearestTents c = new NearestTents();
        due("missing", c.write(2, 0, 0), MISSING);
        due("missing ahead of beyond", c.write(2, -1, 0), MISSING);
        due("sheet 4", c.write(4, 0, 0), BEYOND);
        due("sheet -1", c.write(-1, 0, 0), BEYOND);
        c.sheet(2, 8, 3);
        due("number 3", c.write(2, 3, 0), BEYOND);
        due("number -1", c.write(2, -1, 0), BEYOND);
        due("the last", c.write(2, 2, 256), 1);
        due("its lowest 8 bits", c.judge(2), 0);
        due("of 8 bits 255", c.write(2, 1, 255), 1);
        due("is not 0", c.judge(2), 2);
        c.sheet(2, 16, 1);
        c.write(2, 0, 65536);
        due("its lowest 16 bits", c.judge(2), 0);
        c.write(2, 0, 256);
        due("all 16", c.judge(2), 1);
        c.sheet(2, 32, 1);
        c.write(2, 0, 65536);
        due("all 32", c.judge(2), 1);
        signs();
    }

    /** With its sign, a number that is not 0 or 1 may not become one by copy or load. */
    static void signs() {
        NearestTents c = row();
        c.sheet(0, 8, 4);
        c.write(0, 0, 257);
        c.write(0, 1, -255);
        c.write(0, 2, 129);
        due("257 and -255 of 8 bits are 1", c.load(0), 2);
        due("now(1)", c.now(1), 3);
    }

    static void p42Copy() {
        NearestTents c = row();
        c.sheet(0, 8, 5);
        c.sheet(1, 8, 4);
        c.sheet(2, 16, 5);
        for (int i = 0; i < 5; i++) {
            c.write(0, i, i % 2);
        }
        due("to another one", c.copy(0, 1, 1, 0, 4), 4);
        c.load(1);
        due("they came", c.now(1), 5);
        due("onto itself", c.copy(0, 0, 0, 1, 4), 4);
        c.write(0, 0, 0);
        c.copy(0, 0, 1, 0, 4);
        c.load(1);
        due("as they all were", c.now(1), 4);
        due("none", c.copy(0, 5, 1, 4, 0), 0);
        due("from too far", c.copy(0, 6, 1, 0, 0), BEYOND);
        due("one too many", c.copy(0, 2, 1, 0, 4), BEYOND);
        due("one too many there", c.copy(0, 0, 1, 0, 5), BEYOND);
        due("from -1", c.copy(0, -1, 1, 0, 1), BEYOND);
        due("to -1", c.copy(0, 0, 1, -1, 1), BEYOND);
        due("n -1", c.copy(0, 1, 1, 1, -1), BEYOND);
        due("the greatest of all", c.copy(0, Integer.MAX_VALUE, 1, Integer.MAX_VALUE, Integer.MAX_VALUE), BEYOND);
        due("the least of all", c.copy(0, Integer.MIN_VALUE, 1, Integer.MIN_VALUE, Integer.MIN_VALUE), BEYOND);
        due("other bits", c.copy(0, 9, 2, 9, 9), KIND);
        due("missing", c.copy(0, 9, 3, 9, 9), MISSING);
        due("missing there", c.copy(3, 9, 2, 9, 9), MISSING);
        due("sheet 4", c.copy(4, 0, 3, 0, 0), BEYOND);
        due("sheet -1", c.copy(3, 0, -1, 0, 0), BEYOND);
    }

    static void p43Load() {
        NearestTents c = row();
        c.change(3, 3, 1);
        c.sheet(0, 16, 3);
        c.write(0, 0, 1);
        c.write(0, 2, 1);
        due("all of the sheet", c.load(0), 3);
        due("the one behind stays", c.now(1), 13);
        c.write(0, 0, 0);
        c.write(0, 1, 2);
        due("up to a 2", c.load(0), 1);
        due("now(1)", c.now(1), 12);
        c.write(0, 0, -1);
        due("up to a -1", c.load(0), 0);
        c.sheet(1, 8, 9);
        due("as many as there are tents", c.load(1), 4);
        due("now(1)", c.now(1), 0);
        due("missing", c.load(3), MISSING);
        due("sheet 4", c.load(4), BEYOND);
        due("sheet -1", c.load(-1), BEYOND);
    }

    static void p44Judge() {
        NearestTents c = rowOn();
        c.sheet(0, 8, 40);
        due("the first", c.judge(0), 1);
        c.write(0, 0, 1);
        due("the second", c.judge(0), 2);
        for (int i = 1; i < 39; i++) {
            c.write(0, i, 2);
        }
        due("the last", c.judge(0), 40);
        c.write(0, 39, 2);
        due("all are", c.judge(0), 0);
        due("nothing changes", c.now(1), 1);
        due("missing", c.judge(3), MISSING);
        due("sheet 4", c.judge(4), BEYOND);
        due("sheet -1", c.judge(-1), BEYOND);
    }

    static void p45Image() {
        NearestTents c = rowOn();
        c.wall(0, 3);
        c.wall(1, 4);
        c.wall(2, 0);
        c.hold(5, 2);
        c.seed(99);
        c.days(3);
        due("image()", c.image(), 1);
        c.change(0, 0, MUTE);
        c.change(0, 3, 1);
        c.move(3, 11, 11);
        c.tent(PROPHET, 5, 5);
        c.wall(0, 7);
        c.wall(1, 8);
        c.wall(2, 1);
        c.hold(5, 4);
        c.hold(6, 4);
        c.strew(12);
        c.days(5);
        c.sheet(1, 8, 3);
        c.feed(1, 1);
        due("undo()", c.undo(), 3);
        int[] counts = {3, 4, 2, 3, 4, 1, 99, 1};
        for (int what = 0; what < 8; what++) {
            due("count(" + what + ")", c.count(what), counts[what]);
        }
        due("kind", c.of(0, 0), TENT);
        due("x", c.of(3, 1), 6);
        due("y", c.of(3, 2), 0);
        due("now(1)", c.now(1), 10);
        due("not counted", c.wall(2, 0), 0);
        due("the spot", c.as(5, 0), 2);
        due("the sheet stays", c.write(1, 2, 0), 1);
    }

    static void p46Undo() {
        NearestTents c = row();
        due("nothing is kept", c.undo(), NONE);
        c.image();
        c.days(7);
        c.image();
        c.days(7);
        due("the latest", c.undo(), 7);
        c.days(3);
        due("it stays", c.undo(), 7);
        c.change(1, 3, 1);
        c.undo();
        due("what is changed then is not kept", c.now(1), 0);
    }

    static void p47Tear() {
        NearestTents c = row();
        due("nothing is kept", c.tear(), 0);
        c.image();
        due("something", c.tear(), 1);
        due("not any more", c.tear(), 0);
        due("undo()", c.undo(), NONE);
    }

    static void p48Count() {
        NearestTents c = rowOn();
        c.change(2, 3, 1);
        c.wall(0, 5);
        c.wall(1, 6);
        c.feed(0, 3);
        c.seed(-5);
        c.hold(0, 0);
        c.hold(1, 0);
        c.days(2);
        int[] counts = {2, 4, 2, 5, 6, 3, -5, 2};
        for (int what = 0; what < 8; what++) {
            due("count(" + what + ")", c.count(what), counts[what]);
        }
        due("count(8)", c.count(8), BEYOND);
        due("count(-1)", c.count(-1), BEYOND);
    }

    static void p49Status() {
        NearestTents c = ten();
        c.image();
        c.of(10, 0);
        c.tent(0, 0, 0);
        c.tent(0, 0, 11);
        c.place();
        c.hold(0, 0);
        c.as(0, MUTE);
        c.on(5, 5);
        c.as(1, 0);
        c.sheet(0, 8, -1);
        c.undo();
        int[] found = {1, 1, 1, 1, 2, 1, 1};
        for (int which = 0; which < 7; which++) {
            due("status(" + which + ")", c.status(which), found[which]);
        }
        due("status(-1)", c.status(-1), 8);
        due("status(7)", c.status(7), BEYOND);
        due("status(-2)", c.status(-2), BEYOND);
        due("counted from then on", c.status(0), 3);
        due("counted from then on, of all", c.status(-1), 10);
        fed(c, "no text");
        due("a fault is no finding", c.status(-1), 10);
    }

    public static void main(String[] args) throws ReflectiveOperationException {
        java.util.List<java.lang.reflect.Method> tests = new java.util.ArrayList<>();
        for (java.lang.reflect.Method m : PromisesTest.class.getDeclaredMethods()) {
            if (m.getName().matches("p[0-9]+.*")) {
                tests.add(m);
            }
        }
        tests.sort(java.util.Comparator.comparingInt(m -> number(m)));
        for (java.lang.reflect.Method m : tests) {
            promise = number(m);
            m.invoke(null);
        }
        if (tests.size() != 49) {
            wrong++;
            System.out.println(tests.size() + " promises are tested, due are 49");
        }
        System.out.println(asked + " answers asked, " + wrong + " not as due");
        if (wrong != 0) {
            System.exit(1);
        }
    }

    static int number(java.lang.reflect.Method m) {
        return Integer.parseInt(m.getName().replaceAll("^p([0-9]+).*", "$1"));
    }
}
