/** A test of its own for each sentence of promises 11 to 17. */
final class DaysSentences extends Sentences {
    static void all() {
        days();
        now();
        says();
        saying();
        settles();
        circle();
        mind();
    }

    /** A tent and a contrary one: 0, 2, 3, 1 is said, and then again. */
    static Run wheel() {
        return camp(TENT, 0, 0, CONTRARY, 1, 0);
    }

    /** A prophet and nine tents behind it, each hearing the one before it: one more says 1 each day. */
    static Run spread() {
        Run c = camp(PROPHET, 0, 0);
        for (int i = 1; i < 10; i++) {
            c.with("tent", ELDERLY, i, 0);
        }
        return c;
    }

    /** A ring of three that turns what is said round once: 0 hears 2, that 1, that 0. */
    static Run ring() {
        return camp(FARSIGHTED, 0, 0, ELDERLY, 10, 0, TENT, 11, 0);
    }

    static void days() {
        promise(11, "n DAYS go (1 to 100000)");
        rowOn().due(1, "days", 1).due(2, "now", 1).due(2, "days", 1).due(5, "now", 1).due(2, "days", 100000).due(5, "now", 1)
                .due(2, "days", 99999).due(10, "now", 1).due(200001, "count", 0);
        wheel().due(1, "days", 1).due(2, "days", 1).due(1, "days", 1).due(0, "days", 1).due(0, "days", 100000).due(1, "days", 99999).due(1, "now", 1);
        for (int n = 1; n < 12; n++) {
            spread().due(Math.min(n, 10), "days", n).due((1 << Math.min(n, 10)) - 1, "now", 1);
        }
        run().due(0, "days", 100000).due(100000, "count", 0);

        promise(11, "BEYOND");
        rich().bounds(0, 1, 100000, "days", 1);
        run().refused(BEYOND, "days", 0).refused(BEYOND, "days", 100001);

        promise(11, "STATE: DAY would be above 999999999");
        // More calls than an object is promised for: there is no other way to the last day.
        Run c = furnished(camp(PROPHET, 0, 0)).longer();
        for (int i = 0; i < 9999; i++) {
            c.ask("days", 100000);
        }
        c.refused(STATE, "days", 100000).refused(STATE, "days", 99993).due(999900007, "count", 0).due(1, "days", 99991);
        c.refused(STATE, "days", 2).due(1, "days", 1).due(999999999, "count", 0).refused(STATE, "days", 1).refused(STATE, "days", 100000)
                .refused(BEYOND, "days", 100001).refused(BEYOND, "days", 0).due(999999999, "now", 0);
    }

    static void now() {
        promise(12, "What 0 DAY, 1 those who SAY 1");
        int[] now = {0, 9, 2, 1, 3, 8, 2};
        Run c = rowOn().with("change", 3, 3, 1);
        for (int what = 0; what < 7; what++) {
            c.quiet(now[what], "now", what);
        }
        c.with("days", 5).due(5, "now", 0);
        int[] empty = {0, 0, 0, 0, 0, 0, -1};
        for (int what = 0; what < 7; what++) {
            run().due(empty[what], "now", what);
        }
        int[] alone = {0, 1, 1, 0, 0, 1, -1};
        for (int what = 0; what < 7; what++) {
            camp(TENT, 0, 0).with("change", 0, 3, 1).due(alone[what], "now", what);
        }
        int[] full = {0, 0, 0, 1, 3, 512, 8};
        for (int what = 0; what < 7; what++) {
            ten().due(full[what], "now", what);
        }
        camp(TENT, 0, 0, TENT, 1, 0).due(0, "now", 6).due(0, "now", 5);
        camp(TENT, 6, 0, TENT, 3, 0, TENT, 1, 0, TENT, 0, 0).due(2, "now", 6).due(1, "now", 5).due(12, "now", 4);
        camp(ELDERLY, 0, 0, ELDERLY, 1, 0, ELDERLY, 2, 0).due(-1, "now", 6).due(4, "now", 5);

        promise(12, "BEYOND");
        rich().bounds(0, 0, 6, "now", 0);
        run().refused(BEYOND, "now", 7).refused(BEYOND, "now", -1);
    }

    static void says() {
        promise(13, "What a TENT SAYS n DAYS (0 to 999999) AHEAD");
        rowOn().quiet(1, "says", 0, 0).quiet(0, "says", 0, 1).due(1, "says", 1, 1).due(0, "says", 3, 2).due(1, "says", 3, 3)
                .quiet(1, "says", 3, 999999).quiet(0, "says", 3, 999998);
        for (int t = 1; t < 10; t++) {
            spread().due(0, "says", t, t).due(1, "says", t, t + 1).due(1, "says", t, 999999);
        }

        promise(13, "BEYOND");
        rich().bounds(0, 0, 3, "says", 0, 1).bounds(1, 0, 999999, "says", 0, 0);
        run().refused(BEYOND, "says", 0, 0);
    }

    static void saying() {
        promise(14, "Those who SAY 1 then, as a set");
        int[] said = {1, 2, 5, 10, 5, 10, 5};
        for (int n = 0; n < 7; n++) {
            rowOn().quiet(said[n], "saying", n);
        }
        rowOn().quiet(10, "saying", 999999).due(5, "saying", 999998);
        int[] wheel = {0, 2, 3, 1};
        for (int n = 999990; n <= 999999; n++) {
            wheel().due(wheel[n % 4], "saying", n);
        }
        for (int n = 0; n < 12; n++) {
            spread().due((1 << Math.min(n, 10)) - 1, "saying", n);
        }
        circles();
        run().due(0, "saying", 0).due(0, "saying", 999999);

        promise(14, "BEYOND");
        rich().bounds(0, 0, 999999, "saying", 0);
        run().refused(BEYOND, "saying", -1).refused(BEYOND, "saying", 1000000);
    }

    /** Camps whose circles are of 1, 2, 4 and 6 days, some of which come to them late: as said day by day, and so twelve days on. */
    static void circles() {
        Run[] camps = {spread(), rowOn(), wheel(), ring(), ring().with("tent", ELDERLY, 9, 0).with("tent", ELDERLY, 8, 0).with("tent", ELDERLY, 7, 0)};
        for (Run c : camps) {
            Run goes = c.twin();
            int[] said = new int[40];
            for (int n = 0; n < said.length; n++) {
                said[n] = goes.ask("now", 1);
                goes.with("days", 1);
            }
            for (int n = 0; n < said.length; n++) {
                c.due(said[n], "saying", n);
            }
            for (int n = 999960; n <= 999999; n++) {
                c.due(said[12 + n % 12], "saying", n);
            }
        }
    }

    static void settles() {
        promise(15, "The least number of DAYS AHEAD from which on all that is said");
        rowOn().quiet(2, "settles").with("days", 1).due(1, "settles").with("days", 1).due(0, "settles").with("days", 1).due(0, "settles");
        spread().due(10, "settles").with("days", 9).due(1, "settles").with("days", 1).due(0, "settles");
        wheel().due(0, "settles");
        run().quiet(0, "settles");
        camp(TENT, 5, 5).due(0, "settles");
        camp(PROPHET, 5, 5).due(1, "settles");
    }

    static void circle() {
        promise(16, "After how many DAYS it comes again then (the least)");
        rowOn().quiet(2, "circle");
        row().due(1, "circle");
        spread().due(1, "circle");
        wheel().quiet(4, "circle");
        run().quiet(1, "circle");
        camp(TENT, 5, 5).due(1, "circle");
        camp(CONTRARY, 5, 5, CONTRARY, 6, 5).due(2, "circle").with("change", 0, 3, 1).due(1, "circle");
        // Once round turns what each says, twice round turns it back.
        ring().due(6, "circle").due(0, "settles")
                .with("change", 1, 3, 1).due(2, "circle").due(0, "settles");
    }

    static void mind() {
        promise(17, "The least number of DAYS AHEAD from which on, on each DAY");
        // All say 0 today, but not tomorrow.
        spread().quiet(10, "mind").with("days", 9).due(1, "mind").with("days", 1).due(0, "mind");
        camp(TENT, 5, 5).due(0, "mind");
        camp(PROPHET, 5, 5).due(0, "mind");
        row().due(0, "mind");
        camp(CONTRARY, 5, 5, CONTRARY, 6, 5).due(0, "mind");
        camp(PROPHET, 0, 0, ELDERLY, 1, 0).due(2, "mind");
        camp(MUTE, 0, 0, ELDERLY, 1, 0).with("change", 1, 3, 1).due(1, "mind");

        promise(17, "NONE: never, or there are no TENTS");
        bare().refused(NONE, "mind");
        rowOn().refused(NONE, "mind");
        rich().refused(NONE, "mind");
        camp(MUTE, 0, 0, MUTE, 1, 0).with("change", 1, 3, 1).refused(NONE, "mind");
        // On one day of each circle all say 0, on another one all say 1.
        wheel().refused(NONE, "mind").with("days", 2).refused(NONE, "mind");
    }
}
