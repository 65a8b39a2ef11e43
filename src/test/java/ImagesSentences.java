/** A test of its own for each sentence of promises 45 to 49. */
final class ImagesSentences extends Sentences {
    static void all() {
        image();
        undo();
        tear();
        count();
        status();
    }

    /** What rich() was when its image was taken, with the sheets and the tape that it has now. */
    static Run richThen() {
        return papers(camp(TENT, 2, 3, ELDERLY, 4, 3, MUTE, 8, 9)
                .with("change", 2, 3, 1).with("hold", 0, 2).with("hold", 9, 0).with("wall", 0, 5).with("wall", 1, 2)
                .with("seed", 12345).with("days", 3).with("image"), "mute at 9 9 on;wall 7 bridge 3;counted");
    }

    static void image() {
        promise(45, "All but THE TAPE and SHEETS is kept: 1");
        run().due(1, "image").due(1, "image");
        rich().with("undo").likens(richThen(), "undo()");
        rich().due(1, "image").with("undo").likens(rich().with("image"), "image() and undo()");
        // The empty camp is kept, too, and the tape and sheets stay as they are now.
        run().due(1, "image").with("tent", TENT, 0, 0).with("change", 0, 3, 1).with("hold", 4, 0).with("wall", 0, 3).with("wall", 1, 4).with("wall", 2, 0)
                .with("seed", 9).with("days", 2).with("sheet", 0, 8, 1).feeds("free").due(0, "undo")
                .likens(run().with("image").with("sheet", 0, 8, 1).feeds("free"), "undo() to the empty camp");
        // The full one, the last spot and number of a sheet.
        ten().with("hold", 9, 9).with("image").with("change", 9, 3, 1).with("change", 9, 0, MUTE).with("move", 9, 11, 11).with("hold", 9, -1).due(0, "undo")
                .likens(ten().with("hold", 9, 9).with("image"), "undo() to the full camp");
        rich().with("wipe").with("sheet", 0, 0, 0).due(3, "undo").due(0, "count", 5).due(MISSING, "load", 0);
    }

    static void undo() {
        promise(46, "It becomes what was kept latest (which stays): DAY");
        row().with("image").with("days", 7).with("image").with("days", 5).due(7, "undo").due(7, "count", 0).with("days", 3).due(7, "undo").due(7, "undo");
        // What is changed then is not changed in what is kept.
        row().with("image").with("undo").with("change", 1, 3, 1).with("change", 2, 0, MUTE).with("move", 3, 9, 9).with("wall", 0, 4).with("hold", 1, 1)
                .with("seed", 5).with("tent", TENT, 11, 11).due(0, "undo").likens(row().with("image"), "undo() once more");
        run().with("image").due(0, "undo").due(0, "undo");

        promise(46, "NONE: nothing is kept");
        run().refused(NONE, "undo");
        rich().with("tear").refused(NONE, "undo").with("image").due(7, "undo");
    }

    static void tear() {
        promise(47, "Nothing is kept: 1 if something was, else 0");
        run().due(0, "tear").due(0, "tear").with("image").with("image").due(1, "tear").due(0, "tear").due(NONE, "undo");
        rich().due(1, "tear").due(7, "count", 0).due(4, "count", 1).due(0, "tear").with("image").due(7, "undo").due(1, "tear");
    }

    static void count() {
        promise(48, "0 DAY, 1 TENTS, 2 VOTE");
        int[] counts = {7, 4, 3, 6, 7, 38, -9, 2};
        for (int what = 0; what < 8; what++) {
            rich().quiet(counts[what], "count", what);
        }
        int[] first = {0, 0, 0, 0, 0, 0, 1, 0};
        for (int what = 0; what < 8; what++) {
            run().due(first[what], "count", what);
        }

        promise(48, "BEYOND: another what");
        rich().bounds(0, 0, 7, "count", 0);
        run().refused(BEYOND, "count", -1).refused(BEYOND, "count", 8);
    }

    static void status() {
        promise(49, "How many acts answered a finding ever");
        Run c = run();
        for (int which = -1; which < 7; which++) {
            c.quiet(0, "status", which);
        }
        c = ten().with("image").with("hold", 0, 0);
        int[] found = new int[7];
        // The finding whose place is i comes i + 1 times.
        for (int i = 0; i < 7; i++) {
            for (int times = 0; times <= i; times++) {
                answersFinding(c, i);
                found[i]++;
            }
            statuses(c, found);
        }
        c.due(0, "undo");
        statuses(c, found);
        c.with("tear").with("wipe");
        statuses(c, found);
        // Neither a fault nor what seed() tells is a finding.
        c.due(-1, "text").due(1, "seed", BEYOND).due(BEYOND, "seed", SIZE).due(SIZE, "count", 6);
        statuses(c, found);

        promise(49, "BEYOND (counted from then on): another one");
        rich().bounds(0, -1, 6, "status", 0);
        run().due(0, "status", 0).due(BEYOND, "status", 7).due(1, "status", 0).due(1, "status", -1).due(BEYOND, "status", -2).due(2, "status", 0)
                .due(2, "status", -1).due(0, "status", 6);
    }

    static void answersFinding(Run c, int which) {
        switch (which) {
            case 0 -> c.due(BEYOND, "now", 7);
            case 1 -> c.due(FULL, "tent", TENT, 0, 0);
            case 2 -> c.due(KIND, "as", 0, MUTE);
            case 3 -> c.due(NONE, "on", 0, 0);
            case 4 -> c.due(STATE, "place");
            case 5 -> c.due(MISSING, "judge", 0);
            default -> c.due(SIZE, "sheet", 0, 0, -1);
        }
    }

    static void statuses(Run c, int[] found) {
        int all = 0;
        for (int which = 0; which < 7; which++) {
            c.due(found[which], "status", which);
            all += found[which];
        }
        c.due(all, "status", -1);
    }
}
