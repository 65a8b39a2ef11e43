/** A test of its own for each sentence of promises 18 to 28. */
final class MovesSentences extends Sentences {
    static void all() {
        least();
        whom();
        place();
        leads();
        changed();
        still();
        key();
        leader();
        walled();
        law();
        heard();
    }

    /** A mute one that says 1, a mute one that says 0, and a tent next to the latter. */
    static Run betweenMutes() {
        return camp(MUTE, 0, 0, MUTE, 4, 0, TENT, 3, 0).with("change", 0, 3, 1);
    }

    /** As many mute ones, of which some say 1. */
    static Run mutes(int all, int on) {
        Run c = run();
        for (int i = 0; i < all; i++) {
            c.with("tent", MUTE, i, i).with("change", i, 3, i < on ? 1 : 0);
        }
        return c;
    }

    /**
     * It is won if 7 hears 3, the only one that says 1 today; 3 can't come nearer to it than those
     * around it, who are elder, and beside 3 one yard alone is free: the last, or mirrored the first.
     */
    static Run oneCorner(boolean first) {
        int[][] all = {{MUTE, 1, 0}, {MUTE, 3, 0}, {MUTE, 2, 1}, {MUTE, 11, 10}, {PROPHET, 10, 11}, {PROPHET, 10, 10}, {PROPHET, 11, 9}, {TENT, 2, 0}};
        Run c = run();
        for (int[] t : all) {
            c.with("tent", t[0], first ? 11 - t[1] : t[1], first ? 11 - t[2] : t[2]);
        }
        return c.with("change", 3, 3, 1);
    }

    /** 3 hears 2, who says 0; from two yards as far, (3, 3) and (7, 3), it would hear one that says 1. */
    static Run twoYards() {
        return camp(MUTE, 0, 5, MUTE, 10, 5, MUTE, 5, 6, TENT, 5, 5).with("change", 0, 3, 1).with("change", 1, 3, 1);
    }

    /**
     * 3 hears 0, in the corner, who says 1; to make it hear 2 it must go to the other corner, since on
     * no yard that there is 2 would be farther from it: it would be beyond the last, or mirrored ahead of the first.
     */
    static Run noYardBeyond(boolean first) {
        return camp(MUTE, 0, first ? 0 : 11, MUTE, 1, first ? 0 : 11, MUTE, 0, first ? 1 : 10, FARSIGHTED, 11, first ? 11 : 0)
                .with("change", 0, 3, 1).with("change", 1, 3, 1);
    }

    static void least() {
        promise(18, "The least FAR by which one TENT");
        betweenMutes().quiet(1, "least", 1).quiet(1, "least", 60).with("wall", 0, 3).with("wall", 1, 5).due(36, "least", 1)
                .with("wall", 2, 0).due(1, "least", 1);
        oneCorner(false).due(81 + 121, "least", 1);
        oneCorner(true).due(81 + 121, "least", 1);
        twoYards().due(8, "least", 1);
        noYardBeyond(false).due(121, "least", 1);
        noYardBeyond(true).due(121, "least", 1);
        for (int all = 1; all <= 10; all++) {
            mutes(all, all / 2).due(NONE, "least", 1).due(NONE, "least", 60);
            mutes(all, all / 2 + 1).quiet(0, "least", 1).due(0, "least", 60);
        }
        // Both say 1 two days ahead, and then each fourth day.
        camp(TENT, 0, 0, CONTRARY, 1, 0).due(NONE, "least", 1).due(0, "least", 2).due(NONE, "least", 3).due(0, "least", 58).due(NONE, "least", 59)
                .due(NONE, "least", 60);

        promise(18, "BEYOND");
        rich().bounds(0, 1, 60, "least", 1);
        run().refused(BEYOND, "least", 0).refused(BEYOND, "least", 61);

        promise(18, "NONE");
        bare().refused(NONE, "least", 1).refused(NONE, "least", 60);
        mutes(4, 2).refused(NONE, "least", 1);
        camp(PROPHET, 0, 0, MUTE, 5, 5).refused(NONE, "least", 60);
        camp(TENT, 0, 0).refused(NONE, "least", 1);
    }

    static void whom() {
        promise(19, "That TENT, and where");
        betweenMutes().quiet(2002, "whom", 1).quiet(2002, "whom", 60).with("wall", 0, 3).with("wall", 1, 5).due(2062, "whom", 60);
        oneCorner(false).due(7143, "whom", 1);
        oneCorner(true).due(7000, "whom", 1);
        twoYards().due(3000 + 12 * 3 + 3, "whom", 1);
        noYardBeyond(false).due(3143, "whom", 1);
        noYardBeyond(true).due(3011, "whom", 1);
        // The least that it can tell: 0 goes one step to yard 0.
        camp(TENT, 1, 0, MUTE, 0, 1, MUTE, 2, 0).with("change", 1, 3, 1).quiet(0, "whom", 1).due(1, "least", 1);
        // 0 going to (1, 0) is as little as 2 going there.
        camp(MUTE, 0, 0, MUTE, 3, 0, TENT, 2, 0).with("change", 0, 3, 1).due(1, "whom", 1);
        camp(TENT, 2, 0, MUTE, 0, 0, MUTE, 3, 0).with("change", 1, 3, 1).due(1, "whom", 1);

        promise(19, "BEYOND");
        betweenMutes().bounds(0, 1, 60, "whom", 1);
        rich().refusesAll(BEYOND, 0, new int[] {0, 61, MIN, MAX}, "whom", 1);
        run().refused(BEYOND, "whom", 0).refused(BEYOND, "whom", 61);

        promise(19, "NONE: also if it is so without");
        bare().refused(NONE, "whom", 1).refused(NONE, "whom", 60);
        mutes(4, 2).refused(NONE, "whom", 60);
        mutes(4, 3).refused(NONE, "whom", 1);
        mutes(1, 1).refused(NONE, "whom", 60);
        betweenMutes().with("change", 1, 3, 1).refused(NONE, "whom", 1);
    }

    static void place() {
        promise(20, "The YARD (number), free");
        run().quiet(0, "place");
        camp(TENT, 0, 0, TENT, 2, 0).quiet(1, "place");
        // As far as the last yard is no other one: the farsighted would hear it.
        camp(FARSIGHTED, 0, 0, ELDERLY, 11, 10).quiet(143, "place");
        camp(FARSIGHTED, 11, 11, ELDERLY, 0, 1).due(0, "place");
        // Where it would be farthest is no yard.
        camp(FARSIGHTED, 11, 0, ELDERLY, 0, 11).due(0, "place").due(0, "leads");
        camp(FARSIGHTED, 11, 11, ELDERLY, 0, 0).due(1, "place").due(0, "leads");
        camp(ELDERLY, 0, 0, ELDERLY, 1, 0, ELDERLY, 2, 0).due(3, "place");
        camp(TENT, 5, 5, TENT, 5, 8).due(12 * 3 + 3, "place");
        camp(TENT, 0, 0).due(1, "place");

        promise(20, "STATE: there are 10 TENTS");
        Run nine = run();
        for (int i = 0; i < 9; i++) {
            nine.with("tent", ELDERLY, i, 0);
        }
        nine.quiet(9, "place").with("tent", ELDERLY, 9, 0).refused(STATE, "place");
        crowded().refused(STATE, "place");
    }

    static void leads() {
        promise(21, "How many FOLLOWERS it would have there");
        run().quiet(0, "leads");
        camp(TENT, 0, 0).due(1, "leads");
        camp(TENT, 0, 0, TENT, 2, 0).quiet(2, "leads");
        camp(TENT, 0, 0, TENT, 1, 0).due(0, "leads");
        camp(ELDERLY, 0, 0, ELDERLY, 2, 0).due(0, "leads");
        // The elderly one hears the farsighted, which would hear it.
        camp(FARSIGHTED, 0, 0, ELDERLY, 11, 10).due(2, "leads");
        Run nine = camp(TENT, 0, 0);
        for (int i = 1; i < 9; i++) {
            nine.with("tent", ELDERLY, i + 2, 0);
        }
        nine.due(9, "leads");

        promise(21, "STATE likewise");
        crowded().refused(STATE, "leads");
        nine.with("tent", MUTE, 11, 11).refused(STATE, "leads");
    }

    static void changed() {
        promise(22, "TENTS (others than it) that HEAR another one than now");
        row().quiet(5, "changed", 1, 11, 11).quiet(0, "changed", 1, 1, 0).quiet(0, "changed", 3, 0, 1).due(8, "changed", 2, 0, 11);
        // It comes to hear another one, and nobody else does.
        camp(ELDERLY, 0, 0, ELDERLY, 11, 11, ELDERLY, 0, 1).due(0, "changed", 2, 11, 10);
        // As near as the one heard now is not nearer; 8 alone hears 7.
        ten().due(0, "changed", 9, 0, 10).due(256, "changed", 7, 0, 0);
        camp(TENT, 5, 5).due(0, "changed", 0, 0, 0).due(0, "changed", 0, 11, 11);

        promise(22, "BEYOND");
        rich().bounds(0, 0, 3, "changed", 0, 7, 7).bounds(1, 0, 11, "changed", 1, 0, 7).bounds(2, 0, 11, "changed", 1, 7, 0);
        run().refused(BEYOND, "changed", 0, 0, 0);

        promise(22, "STATE: another TENT is there");
        rich().refused(STATE, "changed", 0, 5, 4).refused(STATE, "changed", 3, 2, 3).refused(STATE, "changed", 0, 11, 0).quiet(0, "changed", 3, 11, 0);
    }

    static void still() {
        promise(23, "To how many free YARDS a TENT can be moved");
        camp(TENT, 0, 0).quiet(143, "still", 0);
        camp(MUTE, 11, 11).due(143, "still", 0);
        camp(TENT, 5, 5).due(143, "still", 0);
        camp(TENT, 5, 5, TENT, 0, 0).due(142, "still", 1).due(142, "still", 0);
        Run elderly = run();
        for (int i = 0; i < 2; i++) {
            elderly.with("tent", ELDERLY, i, 0);
        }
        elderly.due(142, "still", 0).due(142, "still", 1);
        // As long as it is nearer to 1 than to 0: all yards of x above 0 but its own and that of 1.
        camp(TENT, 0, 0, TENT, 1, 0, TENT, 3, 0).due(130, "still", 2);
        // It, too: none of the others ever hears it, but it hears 1 only from the yards nearer to it than to 0.
        camp(ELDERLY, 0, 0, ELDERLY, 11, 0, ELDERLY, 11, 5).due(12 * 6 - 2, "still", 2);

        promise(23, "BEYOND");
        rich().bounds(0, 0, 3, "still", 0);
        run().refused(BEYOND, "still", 0);
    }

    static void key() {
        promise(24, "The TENT without which (it not being there)");
        camp(TENT, 0, 0, ELDERLY, 1, 0, ELDERLY, 5, 0).quiet(0, "key");
        camp(ELDERLY, 0, 0, TENT, 5, 0, ELDERLY, 6, 0).due(1, "key");
        camp(ELDERLY, 3, 3, TENT, 1, 0, TENT, 5, 0, TENT, 3, 0).due(3, "key");
        camp(TENT, 0, 0).due(0, "key");
        camp(ELDERLY, 0, 0, TENT, 5, 0, TENT, 6, 0, TENT, 8, 0).due(1, "key");
        // With all of the ring none has a line, without one of them both others have.
        camp(FARSIGHTED, 0, 0, TENT, 3, 0, TENT, 7, 0).due(0, "key").due(-1, "now", 6);
        ten().quiet(0, "key");
        // Without 0 those that 3 comes to are a ring, without 2 others are: either way 1 and 5 alone have a line.
        camp(TENT, 3, 0, TENT, 7, 1, TENT, 4, 1, FARSIGHTED, 5, 0, TENT, 0, 0, ELDERLY, 9, 1).due(0, "key");
        // Nobody of them ever has a line.
        camp(ELDERLY, 0, 0, ELDERLY, 1, 0).due(0, "key");

        promise(24, "NONE: there are no TENTS");
        bare().refused(NONE, "key");
        run().feeds("free;tent at 12 0").with("text").refused(NONE, "key");
    }

    static void leader() {
        promise(25, "The TENT with most FOLLOWERS");
        row().quiet(0, "leader");
        camp(TENT, 3, 3).due(0, "leader");
        camp(ELDERLY, 0, 0, TENT, 5, 0, ELDERLY, 6, 0).due(1, "leader");
        camp(ELDERLY, 0, 0, ELDERLY, 1, 0, TENT, 10, 0, TENT, 11, 0, TENT, 9, 0).due(2, "leader");
        ten().due(0, "leader");
        // All hear 9, which hears 8: all others follow either of the two.
        Run last = run();
        for (int i = 0; i < 9; i++) {
            last.with("tent", FARSIGHTED, i, 0);
        }
        last.with("tent", MUTE, 11, 11).due(8, "leader");

        promise(25, "NONE: there are no TENTS");
        bare().refused(NONE, "leader");
    }

    static void walled() {
        promise(26, "TENTS that HEAR somebody else, if the WALL is COUNTED");
        run().quiet(0, "walled");
        Run c = camp(TENT, 0, 0, TENT, 1, 0, TENT, 2, 0).due(0, "walled").with("wall", 1, 11).due(0, "walled");
        c.with("wall", 0, 1).quiet(2, "walled").with("wall", 2, 0).quiet(2, "walled").due(0, "wall", 2, 0);
        c.with("wall", 0, 3).due(0, "walled").with("wall", 0, 2).due(0, "walled");
        camp(TENT, 5, 5).with("wall", 0, 5).due(0, "walled");
        // Five pairs, all of them parted by it.
        Run pairs = run();
        for (int i = 0; i < 10; i++) {
            pairs.with("tent", TENT, 5 + i % 2, i / 2 * 2);
        }
        pairs.with("wall", 0, 6).with("wall", 1, 11).due(1023, "walled").with("wall", 0, 5).due(0, "walled");
    }

    static void law() {
        promise(27, "The KIND which, were all of it");
        run().quiet(TENT, "law", 1).due(TENT, "law", 60);
        Run c = camp(TENT, 0, 0, MUTE, 1, 0).quiet(PROPHET, "law", 1).due(PROPHET, "law", 60);
        c.with("change", 0, 3, 1).due(ELDERLY, "law", 1).with("change", 1, 3, 1).quiet(TENT, "law", 60);
        camp(MUTE, 3, 3).due(PROPHET, "law", 60).with("change", 0, 3, 1).due(TENT, "law", 1);
        // What 0 and 1 say has come to 3 in two days, if all are tents.
        row().with("change", 0, 3, 1).with("change", 1, 3, 1).quiet(PROPHET, "law", 1).due(TENT, "law", 2).due(TENT, "law", 60);

        promise(27, "BEYOND");
        rich().bounds(0, 1, 60, "law", 1);
        run().refused(BEYOND, "law", 0).refused(BEYOND, "law", 61);
    }

    static void heard() {
        promise(28, "The TENT whose SAYS, being the other one now");
        row().quiet(1, "heard", 1).quiet(0, "heard", 2).due(0, "heard", 60);
        Run on = row();
        for (int t = 0; t < 4; t++) {
            on.with("change", t, 3, 1);
        }
        on.due(1, "heard", 1);
        camp(TENT, 3, 3).due(0, "heard", 1);
        // Itself isn't counted: each mute one changes nothing but what it says itself.
        camp(MUTE, 0, 0, MUTE, 5, 5, MUTE, 9, 9, TENT, 9, 10).due(2, "heard", 1).due(2, "heard", 60);
        camp(PROPHET, 0, 0, MUTE, 11, 11, TENT, 1, 0, TENT, 10, 11).due(0, "heard", 1).due(1, "heard", 2);
        // What 1 says comes to 2, a day later to 3, and then to 0.
        camp(TENT, 11, 11, MUTE, 0, 0, TENT, 1, 0, TENT, 3, 0).due(1, "heard", 1).due(1, "heard", 2).due(1, "heard", 3);
        camp(TENT, 0, 0, PROPHET, 1, 0).due(1, "heard", 1).due(0, "heard", 2);
        Run last = run();
        for (int i = 0; i < 9; i++) {
            last.with("tent", FARSIGHTED, i, 0);
        }
        last.with("tent", MUTE, 11, 11).due(9, "heard", 1).due(9, "heard", 60);

        promise(28, "BEYOND");
        rich().bounds(0, 1, 60, "heard", 1);
        run().refused(BEYOND, "heard", 0).refused(BEYOND, "heard", 61);

        promise(28, "NONE: there are no TENTS");
        bare().refused(NONE, "heard", 1).refused(NONE, "heard", 60);
    }
}
