/** A test of its own for each sentence of promises 1 to 10. */
final class TentsSentences extends Sentences {
    static void all() {
        newObject();
        tent();
        of();
        change();
        move();
        wall();
        on();
        far();
        nearest();
        hearing();
    }

    static void newObject() {
        promise(1, "All as at first");
        // What another object was told is nothing to a new one.
        rich();
        Run c = run();
        int[] first = {0, 0, 0, 0, 0, 0, 1, 0};
        for (int what = 0; what < 8; what++) {
            c.due(first[what], "count", what);
        }
        int[] now = {0, 0, 0, 0, 0, 0, -1};
        for (int what = 0; what < 7; what++) {
            c.due(now[what], "now", what);
        }
        for (int which = -1; which < 7; which++) {
            c.due(0, "status", which);
        }
        c.due(1, "wall", 2, 1).due(0, "wipe").due(-1, "text").due(0, "tear").due(NONE, "undo");
        for (int s = 0; s < 4; s++) {
            c.due(MISSING, "load", s);
        }
        for (int spot = 0; spot < 10; spot++) {
            c.due(MISSING, "as", spot, TENT);
        }
        for (int yard = 0; yard < 144; yard++) {
            c.due(NONE, "on", yard % 12, yard / 12);
        }
    }

    static void tent() {
        promise(2, "A new TENT: its number");
        Run c = run();
        int[][] yards = {{0, 0}, {11, 0}, {0, 11}, {11, 11}, {5, 6}, {6, 5}, {1, 0}};
        for (int kind = 0; kind < 7; kind++) {
            c.due(kind, "tent", kind, yards[kind][0], yards[kind][1]);
        }
        for (int t = 0; t < 7; t++) {
            c.due(t, "of", t, 0).due(yards[t][0], "of", t, 1).due(yards[t][1], "of", t, 2).due(0, "of", t, 3);
        }
        c.due(7, "count", 1).refused(STATE, "tent", TENT, 0, 0).due(7, "tent", TENT, 7, 7);

        promise(2, "BEYOND");
        rich().bounds(0, 0, 6, "tent", 0, 7, 7).bounds(1, 0, 11, "tent", TENT, 0, 7).bounds(2, 0, 11, "tent", TENT, 7, 0);
        run().refused(BEYOND, "tent", 7, 0, 0).refused(BEYOND, "tent", TENT, 12, 0).refused(BEYOND, "tent", TENT, -1, 1);

        promise(2, "STATE: one is there");
        rich().refused(STATE, "tent", TENT, 2, 3).refused(STATE, "tent", FARSIGHTED, 5, 4).refused(STATE, "tent", MUTE, 8, 9)
                .refused(STATE, "tent", CONTRARY, 11, 0).due(4, "tent", TENT, 3, 2).due(5, "tent", TENT, 0, 11).due(6, "tent", TENT, 4, 3);
        ten().refused(STATE, "tent", TENT, 9, 11);

        promise(2, "FULL");
        Run nine = run();
        for (int i = 0; i < 9; i++) {
            nine.with("tent", TENT, i, i);
        }
        nine.due(9, "tent", TENT, 9, 9).refused(FULL, "tent", TENT, 10, 10).refused(FULL, "tent", MUTE, 0, 1);
        crowded().refused(FULL, "tent", MUTE, 0, 0).refused(FULL, "tent", TENT, 11, 11);
    }

    static void of() {
        promise(3, "Of a TENT: what 0 KIND");
        Run c = row().with("move", 3, 6, 2).with("change", 1, 3, 1);
        int[][] all = {{0, 0, 0, 0, 1, 1, 0, 14}, {0, 1, 0, 1, 0, 0, 0, 13}, {0, 3, 0, 0, 1, 1, 1, 8}, {0, 6, 2, 0, 2, 0, 2, 0}};
        for (int t = 0; t < 4; t++) {
            for (int what = 0; what < 8; what++) {
                c.due(all[t][what], "of", t, what);
            }
        }
        int[] alone = {FARSIGHTED, 11, 11, 1, -1, 1, -1, 0};
        Run one = camp(FARSIGHTED, 11, 11).with("change", 0, 3, 1);
        for (int what = 0; what < 8; what++) {
            one.quiet(alone[what], "of", 0, what);
        }
        ten().due(768, "of", 7, 7).refused(BEYOND, "of", 10, 7);

        promise(3, "BEYOND");
        rich().bounds(0, 0, 3, "of", 0, 0).bounds(1, 0, 7, "of", 0, 0);
        ten().bounds(0, 0, 9, "of", 0, 7);
        run().refused(BEYOND, "of", 0, 0).refused(BEYOND, "of", -1, 4);
    }

    static void change() {
        promise(4, "KIND (what 0), SAYS (3; 0, 1)");
        Run c = rich();
        int was = CONTRARY;
        for (int kind = 0; kind < 7; kind++) {
            c.due(was, "change", 3, 0, kind).due(kind, "of", 3, 0);
            was = kind;
        }
        c.due(FARSIGHTED, "change", 3, 0, FARSIGHTED).due(1, "of", 2, 3).due(1, "change", 2, 3, 1).due(1, "change", 2, 3, 0)
                .due(0, "change", 2, 3, 0).due(0, "change", 2, 3, 1).due(MUTE, "of", 2, 0).due(1, "of", 2, 3);
        ten().due(0, "change", 9, 3, 1).due(512, "now", 1).due(0, "change", 0, 3, 1).due(513, "now", 1).due(1, "change", 9, 3, 0).due(1, "now", 1);

        promise(4, "BEYOND");
        rich().bounds(0, 0, 3, "change", 0, 0, 0).bounds(0, 0, 3, "change", 0, 3, 0).bounds(2, 0, 6, "change", 0, 0, 0).bounds(2, 0, 1, "change", 0, 3, 0)
                .refusesAll(BEYOND, 1, new int[] {-1, 1, 2, 4, 5, 6, 7, 8, MIN, MAX}, "change", 0, 0, 0);
        run().refused(BEYOND, "change", 0, 0, 0).refused(BEYOND, "change", 0, 3, 1);
    }

    static void move() {
        promise(5, "A TENT is moved to a YARD: how FAR it was");
        camp(TENT, 3, 0).due(25, "move", 0, 0, 4).due(0, "of", 0, 1).due(4, "of", 0, 2).quiet(0, "move", 0, 0, 4)
                .due(49 + 121, "move", 0, 11, 11).due(242, "move", 0, 0, 0);
        Run c = rich().due(81 + 81, "move", 3, 2, 9).due(NONE, "on", 11, 0).due(3, "on", 2, 9).with("wall", 2, 1);
        c.due((9 + 2 + 7) * 18, "move", 3, 11, 0).due(9 + 16, "move", 3, 8, 4).due((3 + 3 + 3) * 9, "move", 3, 5, 10);
        c.due(0, "move", 0, 2, 3).due(4, "count", 1);

        promise(5, "BEYOND");
        rich().bounds(0, 0, 3, "move", 0, 7, 7).bounds(1, 0, 11, "move", 1, 0, 7).bounds(2, 0, 11, "move", 1, 7, 0);
        run().refused(BEYOND, "move", 0, 0, 0);

        promise(5, "STATE: another TENT is there");
        rich().refused(STATE, "move", 0, 5, 4).refused(STATE, "move", 3, 2, 3).refused(STATE, "move", 1, 11, 0).due(0, "move", 1, 5, 4)
                .with("move", 0, 0, 0).due(10, "move", 1, 2, 3);
    }

    static void wall() {
        promise(6, "WALL (what 0), BRIDGE (1), COUNTED (2; 0, 1)");
        run().due(0, "wall", 0, 11).due(11, "wall", 0, 0).due(0, "wall", 0, 4).due(0, "wall", 1, 11).due(11, "wall", 1, 0).due(0, "wall", 1, 5)
                .due(1, "wall", 2, 0).due(0, "wall", 2, 0).due(0, "wall", 2, 1).due(1, "wall", 2, 1).due(4, "count", 3).due(5, "count", 4);

        promise(6, "BEYOND");
        rich().bounds(0, 0, 2, "wall", 0, 1).bounds(1, 0, 11, "wall", 0, 0).bounds(1, 0, 11, "wall", 1, 0).bounds(1, 0, 1, "wall", 2, 0);
        run().refused(BEYOND, "wall", 2, 2).refused(BEYOND, "wall", 3, 0);
    }

    static void on() {
        promise(7, "The TENT on a YARD");
        camp(TENT, 0, 0, TENT, 11, 0, TENT, 0, 11, TENT, 11, 11, TENT, 3, 5).quiet(0, "on", 0, 0).due(1, "on", 11, 0).due(2, "on", 0, 11)
                .due(3, "on", 11, 11).due(4, "on", 3, 5);

        promise(7, "BEYOND");
        rich().bounds(0, 0, 11, "on", 0, 5).bounds(1, 0, 11, "on", 5, 0);
        // Yards whose number would be that of the tent on (11, 0), or of one on (0, 1).
        rich().refused(BEYOND, "on", -1, 1).with("move", 3, 0, 1).refused(BEYOND, "on", 12, 0);

        promise(7, "NONE");
        rich().refused(NONE, "on", 3, 2).refused(NONE, "on", 0, 11).refused(NONE, "on", 4, 3);
        bare().refused(NONE, "on", 0, 0).refused(NONE, "on", 11, 11);
    }

    static void far() {
        promise(8, "How FAR two TENTS are");
        rich().quiet(9 + 1, "far", 0, 1).quiet(81 + 9, "far", 3, 0).due(0, "far", 3, 3)
                .with("wall", 2, 1).due((9 + 4 + 7) * 20, "far", 3, 0).due(10, "far", 1, 0);

        promise(8, "BEYOND");
        rich().bounds(0, 0, 3, "far", 0, 1).bounds(1, 0, 3, "far", 1, 0);
        run().refused(BEYOND, "far", 0, 0);
    }

    static void nearest() {
        promise(9, "NEAREST of a TENT of all others");
        rich().quiet(1, "nearest", 0).quiet(0, "nearest", 1).due(1, "nearest", 2).due(1, "nearest", 3);
        // Whatever kind it is: its nearest is not whom it hears.
        for (int kind = 0; kind < 7; kind++) {
            camp(TENT, 0, 0, kind, 5, 0, TENT, 6, 0, TENT, 11, 11).due(2, "nearest", 1);
        }
        camp(TENT, 5, 5, TENT, 6, 5, TENT, 4, 5).due(1, "nearest", 0).with("move", 1, 7, 5).due(2, "nearest", 0);
        ten().due(8, "nearest", 9).due(1, "nearest", 0);

        promise(9, "BEYOND");
        rich().bounds(0, 0, 3, "nearest", 0);
        run().refused(BEYOND, "nearest", 0);

        promise(9, "NONE: it is alone");
        furnished(camp(TENT, 3, 3)).refused(NONE, "nearest", 0);
        camp(ELDERLY, 5, 5).refused(NONE, "nearest", 0).with("tent", TENT, 6, 6).due(1, "nearest", 0).due(0, "nearest", 1);
    }

    static void hearing() {
        promise(10, "Those who HEAR a TENT, as a set");
        row().quiet(2, "hearing", 0).due(5, "hearing", 1).due(8, "hearing", 2).due(0, "hearing", 3);
        ten().due(512, "hearing", 8).due(0, "hearing", 9).due(5, "hearing", 1);
        camp(TENT, 5, 5).due(0, "hearing", 0);

        promise(10, "BEYOND");
        rich().bounds(0, 0, 3, "hearing", 0);
        // There nobody is heard by somebody, which is no tent.
        camp(TENT, 5, 5).refused(BEYOND, "hearing", -1);
        run().refused(BEYOND, "hearing", 0);
    }
}
