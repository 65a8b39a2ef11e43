/** A test of its own for each sentence of promises 29 to 34. */
final class BooksSentences extends Sentences {
    static final int[] SEEDS = {1, 0, -1, 2, -77, MIN, MAX, 715827882, 1 << 30};

    static void all() {
        follows();
        moves();
        moved();
        strew();
        camps();
        seed();
    }

    static int z;

    /** A draw, from the Terms once more, on long numbers, of which the lowest 32 bits count. */
    static int draw() {
        z = (int) (z * 1103515245L + 12345L);
        return (int) ((z & 0xffffffffL) / 256);
    }

    /** One tent alone, which says 0 whatever it does. */
    static Run alone(int x, int y) {
        return camp(TENT, x, y);
    }

    static Run betweenMutes() {
        return camp(MUTE, 0, 0, MUTE, 4, 0, TENT, 3, 0).with("change", 0, 3, 1);
    }

    static void follows() {
        promise(29, "Others whom a TENT can have heard");
        Run c = rowOn().with("change", 2, 3, 1);
        c.quiet(10, "follows", 0, 10).quiet(5, "follows", 1, 10).due(0, "follows", 0, 1).due(13, "follows", 1, 0).due(14, "follows", 0, 15)
                .due(0, "follows", 1, 15).due(0, "follows", 0, 0);
        ten().due(0, "follows", 9, 1023).due(511, "follows", 9, 0).with("change", 9, 3, 1).due(511, "follows", 9, 1023).due(0, "follows", 9, 512);
        alone(0, 0).due(0, "follows", 0, 0).due(0, "follows", 0, 1);

        promise(29, "BEYOND: bits of no TENT, too");
        rich().bounds(0, 0, 3, "follows", 0, 1).bounds(1, 0, 15, "follows", 0, 0);
        ten().bounds(1, 0, 1023, "follows", 9, 0);
        rich().refused(BEYOND, "follows", 0, MIN + 1).refused(BEYOND, "follows", 0, 1 << 30).refused(BEYOND, "follows", 0, -16);
        run().refused(BEYOND, "follows", 0, 0);
    }

    static void moves() {
        promise(30, "Moves that explain what was said");
        int[][] yards = {{0, 0, 3, 8}, {11, 11, 3, 8}, {11, 0, 3, 8}, {0, 11, 3, 8}, {0, 5, 5, 14}, {11, 6, 5, 14}, {5, 0, 5, 14}, {6, 11, 5, 14},
            {1, 1, 8, 15}, {10, 10, 8, 15}, {2, 2, 8, 24}, {9, 9, 8, 24}};
        for (int[] y : yards) {
            alone(y[0], y[1]).due(y[2], "moves", 0, 1).due(y[3], "moves", 0, 2).due(0, "moves", 1, 1).due(0, "moves", 1, 2);
        }
        alone(5, 5).quiet(1, "moves", 0, 0).quiet(0, "moves", 1, 0).quiet(8, "moves", 0, 1);
        camp(TENT, 0, 0, TENT, 1, 0).due(6, "moves", 0, 1).due(17, "moves", 0, 2);
        betweenMutes().quiet(1, "moves", 1, 0).due(0, "moves", 5, 0).due(2, "moves", 5, 1).quiet(10, "moves", 5, 2).due(0, "moves", 7, 2);
        ten().with("change", 0, 3, 1).due(1, "moves", 2, 0).due(0, "moves", 1, 0);
        run().quiet(1, "moves", 0, 0).due(0, "moves", 0, 1).due(0, "moves", 0, 2);

        promise(30, "BEYOND: bits of no TENT, too");
        rich().bounds(0, 0, 15, "moves", 0, 1).bounds(1, 0, 2, "moves", 0, 0).refused(BEYOND, "moves", 1 << 30, 0).refused(BEYOND, "moves", -16, 2);
        ten().bounds(0, 0, 1023, "moves", 0, 0);
        run().refused(BEYOND, "moves", 1, 0).refused(BEYOND, "moves", 0, 3).refused(BEYOND, "moves", 0, -1);
    }

    static void moved() {
        promise(31, "The first of these ways by TENTS, then YARDS");
        alone(0, 0).due(1, "moved", 0, 1).due(1, "moved", 0, 2);
        alone(11, 11).due(130, "moved", 0, 1).due(117, "moved", 0, 2);
        alone(11, 0).due(10, "moved", 0, 1).due(9, "moved", 0, 2);
        alone(0, 11).due(120, "moved", 0, 1).due(108, "moved", 0, 2);
        alone(5, 5).quiet(0, "moved", 0, 0).quiet(52, "moved", 0, 1).due(39, "moved", 0, 2);
        betweenMutes().quiet(0, "moved", 1, 0).quiet(2002, "moved", 5, 1).due(2, "moved", 5, 2);
        camp(TENT, 0, 0, TENT, 1, 0).due(12, "moved", 0, 1).due(2, "moved", 0, 2);
        // 9 is as near to 0 as to 1, who say 0; from (4, 1) it hears 8, who says 1 and can't come nearer than they are.
        Run nine = camp(MUTE, 6, 2, MUTE, 5, 3);
        for (int i = 2; i < 8; i++) {
            nine.with("tent", MUTE, i, 11);
        }
        nine.with("tent", MUTE, 3, 2).with("tent", TENT, 5, 2).with("change", 8, 3, 1).due(9000 + 12 + 4, "moved", 256 + 512, 1);
        run().due(0, "moved", 0, 0);

        promise(31, "BEYOND");
        rich().bounds(0, 0, 15, "moved", 0, 1).bounds(1, 0, 2, "moved", 15, 0).refused(BEYOND, "moved", 1 << 30, 0).refused(BEYOND, "moved", -16, 2);
        ten().bounds(0, 0, 1023, "moved", 0, 0);
        run().refused(BEYOND, "moved", 1, 0).refused(BEYOND, "moved", 0, 3);

        promise(31, "NONE");
        betweenMutes().refused(NONE, "moved", 5, 0).refused(NONE, "moved", 7, 2).refused(NONE, "moved", 0, 1);
        bare().refused(NONE, "moved", 0, 1).refused(NONE, "moved", 0, 2);
        rich().refused(NONE, "moved", 0, 0).refused(NONE, "moved", 0, 2);
    }

    static void strew() {
        promise(32, "n times (1 to 12) by draws");
        for (int seed : SEEDS) {
            for (int n = 1; n <= 12; n += 11) {
                Run c = camp(TENT, 0, 0, TENT, 1, 0, TENT, 3, 0).with("seed", seed).due(1, "strew", n);
                int[] yards = {0, 1, 3};
                z = seed;
                for (int i = 0; i < n; i++) {
                    stray(yards, draw() % 3);
                }
                c.due(z, "count", 6);
                for (int t = 0; t < 3; t++) {
                    c.due(yards[t] % 12, "of", t, 1).due(yards[t] / 12, "of", t, 2);
                }
            }
        }
        camp(ELDERLY, 0, 0, ELDERLY, 1, 0).due(0, "strew", 12);
        alone(0, 0).due(0, "strew", 1);
        blocked();

        promise(32, "BEYOND");
        rich().bounds(0, 1, 12, "strew", 1);
        run().refused(BEYOND, "strew", 0).refused(BEYOND, "strew", 13);

        promise(32, "STATE: there are no TENTS");
        bare().refused(STATE, "strew", 1).refused(STATE, "strew", 12);
    }

    /** A tent goes to the yard of the next draw, unless another one is there. */
    static void stray(int[] yards, int tent) {
        int yard = draw() % 144;
        for (int t = 0; t < yards.length; t++) {
            if (t != tent && yards[t] == yard) {
                return;
            }
        }
        yards[tent] = yard;
    }

    /** Seeds whose first two draws give tent 1 and a yard: that of tent 0, its own one, the first and the last. */
    static void blocked() {
        for (int yard : new int[] {50, 60, 0, 143}) {
            int seed = 0;
            do {
                seed++;
                z = seed;
            } while (draw() % 2 != 1 || draw() % 144 != yard);
            int due = yard == 50 ? 60 : yard;
            camp(TENT, 2, 4, TENT, 0, 5).with("seed", seed).due(1, "strew", 1).due(z, "count", 6)
                    .due(due % 12, "of", 1, 1).due(due / 12, "of", 1, 2).due(0, "on", 2, 4);
        }
    }

    static void camps() {
        promise(33, "n times (1 to 12) each TENT, by numbers");
        for (int seed : SEEDS) {
            for (int n = 1; n <= 12; n += 11) {
                z = seed;
                for (int i = 0; i < 3 * n; i++) {
                    draw();
                }
                Run before = camp(TENT, 0, 0, TENT, 1, 0, MUTE, 3, 0).with("change", 1, 3, 1).with("hold", 2, 1);
                before.twin().with("seed", seed).due(n, "camps", n).due(z, "count", 6).with("seed", 1)
                        .likens(before, "camps(" + n + ") and back to z 1");
            }
        }
        rich().with("camps", 12).with("seed", -9).likens(rich(), "camps(12) and back to z -9");
        camp(ELDERLY, 0, 0, ELDERLY, 1, 0).due(0, "camps", 12);
        alone(0, 0).due(0, "camps", 12);
        notBetween();

        promise(33, "BEYOND");
        rich().bounds(0, 1, 12, "camps", 1);
        run().refused(BEYOND, "camps", 0).refused(BEYOND, "camps", 13);

        promise(33, "STATE: there are no TENTS");
        bare().refused(STATE, "camps", 1).refused(STATE, "camps", 12);
    }

    /** Each time goes on from where the tents were then: a seed by which the pairs are others if they went back in between. */
    static void notBetween() {
        int[] start = {0, 1, 2, 3, 4, 5, 6, 7, 8, 9};
        for (int seed = 1; seed < 100000; seed++) {
            z = seed;
            int[] going = start.clone();
            int pairs = 0, pairsIfBack = 0;
            for (int time = 0; time < 12; time++) {
                int here = z;
                int[] back = start.clone();
                for (int t = 0; t < 10; t++) {
                    stray(back, t);
                }
                pairsIfBack += pairs(back);
                z = here;
                for (int t = 0; t < 10; t++) {
                    stray(going, t);
                }
                pairs += pairs(going);
            }
            if (pairs != pairsIfBack) {
                Run c = run().with("seed", seed);
                for (int yard : start) {
                    c.with("tent", TENT, yard, 0);
                }
                c.due(pairs, "camps", 12).due(z, "count", 6);
                return;
            }
        }
        fail("no such seed");
    }

    /** How many pairs there are on yards where all are tents and no wall is. */
    static int pairs(int[] yards) {
        int pairs = 0;
        for (int t = 0; t < yards.length; t++) {
            pairs += nearest(yards, nearest(yards, t)) == t ? 1 : 0;
        }
        return pairs / 2;
    }

    static int nearest(int[] yards, int tent) {
        int best = -1, least = MAX;
        for (int t = 0; t < yards.length; t++) {
            int x = yards[t] % 12 - yards[tent] % 12, y = yards[t] / 12 - yards[tent] / 12;
            if (t != tent && x * x + y * y < least) {
                least = x * x + y * y;
                best = t;
            }
        }
        return best;
    }

    static void seed() {
        promise(34, "z becomes v: what it was");
        Run c = run();
        int was = 1;
        for (int v : SEEDS) {
            c.due(was, "seed", v).due(v, "count", 6);
            was = v;
        }
        c.due(0, "status", -1);
        rich().due(-9, "seed", 4).due(4, "seed", -9).likens(rich(), "seed(4) and back to -9");
    }
}
