/** A test of its own for each sentence of promises 35 to 37. */
final class TextsSentences extends Sentences {
    static void all() {
        feed();
        wipe();
        text();
    }

    static Run taped(int bytes) {
        return run().feeds(" ".repeat(bytes));
    }

    static void feed() {
        promise(35, "THE TAPE gets the n lowest bytes of a number behind it");
        run().due(4, "feed", 0x66726565, 4).due(1, "text");
        run().due(1, "feed", 0x78787866, 1).due(3, "feed", 0x78787265, 2).due(4, "feed", 0x78787865, 1).due(1, "text");
        run().due(3, "feed", 0x78667265, 3).due(4, "feed", 0x65, 1).due(1, "text");
        // The highest bits of a byte count: none of these is a blank, a letter or the like.
        run().due(4, "feed", 0xa0202020, 4).due(-1, "text").due(1, "feed", -32, 1).due(-1, "text").due(4, "feed", MIN, 4).due(-1, "text");
        rich().with("feed", 0x3b, 1).with("feed", 0x66726565, 4).due(4, "text").due(0, "wall", 2, 1);

        promise(35, "BEYOND: n");
        rich().bounds(1, 1, 4, "feed", 0x20202020, 1);
        run().refused(BEYOND, "feed", 0x66726565, 0).refused(BEYOND, "feed", 0x66726565, 5).refused(BEYOND, "feed", 0, -1);
        taped(120).refused(BEYOND, "feed", 0, 0).refused(BEYOND, "feed", 0, 5);

        promise(35, "FULL");
        taped(116).due(120, "feed", 0x66726565, 4).refused(FULL, "feed", 0x20, 1).refused(FULL, "feed", 0x20202020, 4).due(1, "text").due(1, "feed", 0, 1);
        rich().feeds(" ".repeat(82)).refused(FULL, "feed", 0x20, 1).refused(FULL, "feed", 0x3b, 4).due(3, "text");
        for (int n = 1; n <= 4; n++) {
            taped(120 - n).due(120, "feed", 0, n);
            taped(121 - n).refused(FULL, "feed", 0x66726565, n).due(121 - n, "count", 5);
        }
    }

    static void wipe() {
        promise(36, "THE TAPE is empty: how many it had");
        run().due(0, "wipe").due(0, "wipe");
        taped(120).due(120, "wipe").due(0, "count", 5).due(0, "wipe").due(-1, "text");
        run().feeds("free").due(4, "wipe").feeds("wall 3").due(1, "text").due(1, "wall", 2, 1).due(0, "status", -1);
        rich().due(38, "wipe").due(0, "count", 5).due(-1, "text").due(4, "count", 1);
        // What was on it before doesn't come again.
        taped(119).with("wipe").feeds("free").due(1, "text");
    }

    static void text() {
        promise(37, "THE TAPE is a TEXT, and empty then");
        rich().due(3, "text").due(0, "count", 5).due(5, "count", 1).due(MUTE, "of", 4, 0).due(9, "of", 4, 1).due(9, "of", 4, 2).due(1, "of", 4, 3)
                .due(7, "count", 3).due(3, "count", 4).due(1, "wall", 2, 1).due(7, "count", 0).due(-9, "count", 6).due(2, "count", 7).due(-1, "text");
        run().feeds("wall 3 bridge 4;wall 5;wall 6;free;counted;free").due(6, "text").due(6, "count", 3).due(4, "count", 4).due(0, "wall", 2, 0);
        run().feeds("tent at 1 1;tent at 2 1 on;mute at 1 2").due(3, "text").due(0, "on", 1, 1).due(1, "on", 2, 1).due(2, "on", 1, 2).due(2, "now", 1);
        tents(9).feeds("tent at 9 0 on").due(1, "text").due(10, "count", 1).due(512, "now", 1).feeds("free").due(1, "text");
        // As many as THE TAPE holds.
        run().feeds("mute at 0 0;mute at 1 0;mute at 2 0;mute at 3 0;mute at 4 0;mute at 5 0;mute at 6 0;mute at 7 0;mute at 8 0;mute at 9 0")
                .due(10, "text").due(10, "count", 1);
        run().feeds("free;".repeat(23) + "free ").due(24, "text");

        promise(37, "With a FAULT: -1 less the FAULT");
        String[] texts = {"", " ", ";", "free;wall 3;tent at 0 0 on;counted;", "free;wall 3 bridge 9;tent at 0 0;mute at 1 0;x",
            "tent at 0 0;tent at 0 0", "free;tent at 11 0", "free;tent at 0 12", "wall 0;wall 12", "tent at 1 1 on;wall 1 bridge 12", "free\u00ff"};
        int[] faults = {0, 1, 0, 35, 45, 22, 16, 15, 12, 29, 4};
        for (int i = 0; i < texts.length; i++) {
            rich().with("wipe").feeds(texts[i]).due(-1 - faults[i], "text").due(0, "count", 5).due(0, "status", -1)
                    .likens(rich().with("wipe"), "\"" + texts[i] + "\"");
        }
        tents(9).feeds("free;tent at 0 1;elderly at 0 2").due(-1 - 17, "text").due(9, "count", 1).due(1, "wall", 2, 1)
                .feeds("tent at 0 1").due(1, "text").due(10, "count", 1).feeds("tent").due(-1, "text").due(0, "status", -1);
        taped(120).due(-121, "text").due(0, "count", 5);
        run().feeds("free;".repeat(24)).due(-121, "text").due(1, "wall", 2, 1);
    }

    static Run tents(int tents) {
        Run c = run();
        for (int i = 0; i < tents; i++) {
            c.with("tent", TENT, i, 0);
        }
        return c;
    }
}
