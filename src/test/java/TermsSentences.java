/** A test of its own for each sentence of the section "Terms" and for how long an object is used. */
final class TermsSentences extends Sentences {
    static void term(String words) {
        sentence("Terms", words);
    }

    static void all() {
        calls();
        findings();
        order();
        yardsAndTents();
        far();
        hears();
        willSay();
        days();
        lines();
        draws();
        texts();
        spotsAndSheets();
    }

    static void calls() {
        sentence("What it is", "An object is used for at most 512 calls");
        Run c = ten();
        for (int i = 10; i < 511; i++) {
            c.due(NONE, "least", 60);
        }
        c.due(10, "count", 1);
    }

    static void findings() {
        term("FINDINGS are answers below -1000000");
        rich().refused(-1000001, "count", 8);
        ten().refused(-1000002, "tent", TENT, 0, 0);
        rich().refused(-1000003, "as", 9, MUTE);
        rich().refused(-1000004, "on", 0, 0);
        rich().refused(-1000005, "tent", TENT, 2, 3);
        rich().refused(-1000006, "load", 3);
        rich().refused(-1000007, "sheet", 0, 8, -1);

        term("What seed() and count(6) tell");
        for (int z : new int[] {MIN, MAX, 0, -1, -1000000, BEYOND, FULL, KIND, NONE, STATE, MISSING, SIZE, SIZE - 1}) {
            Run c = run().due(1, "seed", z).due(z, "count", 6).due(z, "seed", 5);
            for (int which = -1; which < 7; which++) {
                c.due(0, "status", which);
            }
        }

        term("Quotients are cut");
        camp(MUTE, 0, 0).with("change", 0, 3, 1).due(0, "least", 1);
        camp(MUTE, 0, 0, MUTE, 5, 5).with("change", 0, 3, 1).due(NONE, "least", 1);
        Run three = camp(MUTE, 0, 0, MUTE, 5, 5, MUTE, 7, 7).with("change", 0, 3, 1).due(NONE, "least", 1);
        three.with("change", 2, 3, 1).due(0, "least", 1);

        term("Sets are told as bits");
        ten().with("change", 9, 3, 1).due(512, "now", 1).with("change", 0, 3, 1).due(513, "now", 1);
        ten().due(1022, "of", 0, 7).due(0, "of", 9, 7).due(256, "hearing", 7);
        ten().due(0, "leader").due(0, "key").due(PROPHET, "law", 1).due(0, "heard", 2);
        camp(ELDERLY, 0, 0, ELDERLY, 2, 0).due(1, "place");
    }

    /** Each act that has several findings gets what would be all of them, then all but the first, and so on. */
    static void order() {
        term("Each act tells its findings in the order");
        Run full = ten();
        full.refused(BEYOND, "tent", 7, 0, 11).refused(STATE, "tent", TENT, 0, 11).refused(FULL, "tent", TENT, 0, 10);
        rich().refused(BEYOND, "move", 4, 2, 3).refused(STATE, "move", 3, 2, 3);
        rich().refused(BEYOND, "on", -1, 0).refused(NONE, "on", 0, 0);
        camp(TENT, 5, 5).refused(BEYOND, "nearest", 1).refused(NONE, "nearest", 0);
        run().refused(BEYOND, "least", 61).refused(NONE, "least", 60);
        run().refused(BEYOND, "whom", 61).refused(NONE, "whom", 60);
        rich().refused(BEYOND, "changed", -1, 2, 3).refused(STATE, "changed", 1, 2, 3);
        run().refused(BEYOND, "heard", 0).refused(NONE, "heard", 1);
        rich().refused(BEYOND, "moved", 16, 0).refused(BEYOND, "moved", 0, 3).refused(NONE, "moved", 0, 2);
        run().refused(BEYOND, "strew", 13).refused(STATE, "strew", 12);
        run().refused(BEYOND, "camps", 13).refused(STATE, "camps", 12);
        Run taped = run();
        for (int i = 0; i < 30; i++) {
            taped.with("feed", 0x20202020, 4);
        }
        taped.refused(BEYOND, "feed", 0, 5).refused(FULL, "feed", 0, 4);
        rich().refused(BEYOND, "as", 0, 7).refused(MISSING, "as", 0, MUTE).refused(KIND, "as", 9, MUTE);
        rich().refused(BEYOND, "sheet", 4, 8, -1).refused(BEYOND, "sheet", 0, 7, -1)
                .refused(SIZE, "sheet", 0, 8, -1).refused(BEYOND, "sheet", 0, 8, 41);
        rich().refused(BEYOND, "write", 4, -1, 0).refused(MISSING, "write", 3, -1, 0).refused(BEYOND, "write", 0, -1, 0);
        rich().refused(BEYOND, "copy", 3, -1, 4, -1, -1).refused(MISSING, "copy", 0, -1, 3, -1, -1)
                .refused(KIND, "copy", 0, -1, 1, -1, -1).refused(BEYOND, "copy", 0, -1, 0, 0, 1);
        rich().refused(BEYOND, "load", 4).refused(MISSING, "load", 3);
        rich().refused(BEYOND, "judge", 4).refused(MISSING, "judge", 3);
    }

    static void yardsAndTents() {
        term("YARDS x, y, 0 to 11 each");
        run().due(0, "tent", TENT, 0, 0).due(1, "tent", TENT, 11, 0).due(2, "tent", TENT, 0, 11).due(3, "tent", TENT, 11, 11)
                .refused(BEYOND, "tent", TENT, 12, 0).refused(BEYOND, "tent", TENT, 0, 12)
                .refused(BEYOND, "tent", TENT, -1, 0).refused(BEYOND, "tent", TENT, 0, -1);
        // The only yard next to it that is free is the last of all, or the first.
        camp(MUTE, 10, 11, MUTE, 9, 10, MUTE, 10, 10, MUTE, 11, 10, MUTE, 9, 11).due(143, "moved", 0, 1);
        camp(MUTE, 1, 0, MUTE, 0, 1, MUTE, 1, 1, MUTE, 2, 1, MUTE, 2, 0).due(0, "moved", 0, 1);
        camp(TENT, 3, 7).due(12 * 6 + 2, "moved", 0, 1);

        term("TENTS 0, 1, ..");
        ten().due(10, "count", 1).refused(FULL, "tent", TENT, 0, 0);
        Run c = rich().refused(STATE, "tent", MUTE, 11, 0).refused(STATE, "move", 0, 11, 0);
        c.due(4, "tent", DOUBTING, 0, 0).due(0, "of", 4, 3).due(3, "on", 11, 0);
        camp(ELDERLY, 5, 5, ELDERLY, 6, 5).due(-1, "of", 0, 4).due(0, "of", 1, 4);
        int[][] above = {{0}, {0, 1}, {0, 2}, {0, 2, 3}, {0, 1, 4}, {0, 5}, {0, 5, 6}};
        for (int kind = 0; kind < 7; kind++) {
            Run k = camp(kind, 1, 1).with("hold", 0, 0).due(kind, "of", 0, 0);
            for (int as = 0; as < 7; as++) {
                int other = as;
                boolean is = java.util.Arrays.stream(above[kind]).anyMatch(a -> a == other);
                k.due(is ? 0 : KIND, "as", 0, as);
            }
        }

        term("WALL (0 to 11; 0 at first: none)");
        run().due(0, "count", 3).due(0, "count", 4).due(0, "wall", 0, 11).due(0, "wall", 1, 11).due(1, "wall", 2, 0).due(0, "wall", 2, 1);
        // By the bridge at y 0 it is 1 + 5 + 5 steps from one yard to the next.
        for (int wall = 0; wall < 12; wall++) {
            for (int x = 0; x < 11; x++) {
                camp(TENT, x, 5, TENT, x + 1, 5).with("wall", 0, wall).due(wall == x + 1 ? 121 : 1, "far", 0, 1);
            }
        }
    }

    static void far() {
        term("FAR (of two YARDS)");
        camp(TENT, 0, 0, TENT, 11, 11, TENT, 11, 0, TENT, 0, 1, TENT, 3, 4)
                .due(242, "far", 0, 1).due(242, "far", 1, 0).due(121, "far", 0, 2).due(1, "far", 0, 3).due(25, "far", 4, 0)
                .due(0, "far", 4, 4).due(18, "far", 3, 4);

        term("If the WALL is COUNTED and stands between them");
        Run c = camp(TENT, 0, 11, TENT, 11, 11, TENT, 5, 3, TENT, 6, 8);
        c.due(121, "far", 0, 1).with("wall", 0, 6).due((11 + 11 + 11) * 33, "far", 0, 1).due(33 * 33, "far", 1, 0);
        c.due((1 + 3 + 8) * 12, "far", 2, 3).with("wall", 1, 5).due((1 + 2 + 3) * 6, "far", 2, 3).due(36, "far", 3, 2);
        c.with("wall", 1, 11).due((1 + 8 + 3) * 12, "far", 2, 3).due((11 + 0 + 0) * 11, "far", 0, 1);
        c.due(25 + 64, "far", 0, 2).due(25 + 9, "far", 1, 3);
        c.with("wall", 2, 0).due(26, "far", 2, 3).with("wall", 2, 1).due(144, "far", 2, 3);
        c.with("wall", 0, 0).due(26, "far", 2, 3).due(121, "far", 0, 1);
        c.with("wall", 0, 5).due(26, "far", 2, 3).with("wall", 0, 7).due(26, "far", 2, 3);

        term("NEAREST of a TENT among some others");
        camp(TENT, 5, 5, TENT, 8, 5, TENT, 5, 3, TENT, 5, 7, TENT, 3, 5).due(2, "nearest", 0).with("move", 4, 4, 4).due(4, "nearest", 0)
                .with("move", 1, 6, 6).due(1, "nearest", 0);
    }

    static void hears() {
        // The nearest of all is 4, the nearest of the elder ones 1, the farthest 0 (and, as far, 5).
        Run c = camp(TENT, 0, 5, TENT, 3, 5, TENT, 6, 9, TENT, 5, 5, TENT, 6, 5, TENT, 10, 5);
        term("HEARS (whom): TENT");
        c.due(4, "of", 3, 4).with("move", 1, 4, 5).due(1, "of", 3, 4).with("move", 1, 3, 5);
        term("ELDERLY: its NEAREST of those with lesser numbers");
        c.with("change", 3, 0, ELDERLY).due(1, "of", 3, 4).with("move", 2, 5, 7).due(1, "of", 3, 4).with("move", 2, 5, 6).due(2, "of", 3, 4)
                .with("move", 2, 6, 9);
        camp(ELDERLY, 5, 5, TENT, 5, 6).due(-1, "of", 0, 4);
        term("CONTRARY: as a TENT");
        c.with("change", 3, 0, CONTRARY).due(4, "of", 3, 4);
        term("FARSIGHTED: of all others the one most FAR");
        c.with("change", 3, 0, FARSIGHTED).due(0, "of", 3, 4).with("move", 5, 11, 5).due(5, "of", 3, 4).with("move", 5, 10, 5);
        c.with("wall", 0, 6).with("wall", 1, 11).due(5, "of", 3, 4).with("wall", 0, 0);
        // The only other one, as little FAR as can be.
        camp(FARSIGHTED, 0, 0, TENT, 1, 0).due(1, "of", 0, 4).with("change", 1, 0, FARSIGHTED).due(0, "of", 1, 4);
        term("(Others as the KIND above.)");
        c.with("change", 3, 0, PROPHET).due(4, "of", 3, 4).with("change", 3, 0, MUTE).due(4, "of", 3, 4)
                .with("change", 3, 0, DOUBTING).due(1, "of", 3, 4);
        camp(FARSIGHTED, 0, 0, TENT, 1, 0, MUTE, 9, 9).due(1, "of", 0, 5).with("change", 2, 3, 1).due(0, "of", 0, 5);
        term("(Nobody, if there is none.)");
        for (int kind = 0; kind < 7; kind++) {
            camp(kind, 5, 5).due(-1, "of", 0, 4);
            camp(kind, 5, 5, TENT, 6, 6).due(kind == ELDERLY || kind == DOUBTING ? -1 : 1, "of", 0, 4);
        }
    }

    static void willSay() {
        term("WILL SAY: TENT");
        camp(TENT, 0, 0, MUTE, 1, 0).due(0, "of", 0, 5).with("change", 1, 3, 1).due(1, "of", 0, 5).with("change", 0, 3, 1).due(1, "of", 0, 5)
                .with("change", 1, 3, 0).due(0, "of", 0, 5);
        for (int kind : new int[] {TENT, ELDERLY, MUTE, DOUBTING, CONTRARY, FARSIGHTED}) {
            camp(kind, 0, 0).due(0, "of", 0, 5).with("change", 0, 3, 1).due(1, "of", 0, 5);
        }
        camp(ELDERLY, 0, 0, MUTE, 1, 0).with("change", 1, 3, 1).due(0, "of", 0, 5);
        camp(MUTE, 0, 0, ELDERLY, 1, 0, MUTE, 2, 0).with("change", 0, 3, 1).due(1, "of", 1, 5);

        term("PROPHET: 1");
        camp(PROPHET, 0, 0).due(1, "of", 0, 5).due(0, "of", 0, 3);
        camp(PROPHET, 0, 0, MUTE, 1, 0).due(1, "of", 0, 5);

        term("MUTE: what it SAYS itself");
        camp(MUTE, 0, 0, MUTE, 1, 0).with("change", 1, 3, 1).due(0, "of", 0, 5).due(1, "of", 1, 5);

        term("DOUBTING: as an ELDERLY one");
        // The elder one that 1 hears is 0, its nearest of all is 2.
        for (int said = 0; said < 8; said++) {
            Run c = camp(TENT, 0, 0, DOUBTING, 5, 0, TENT, 6, 0);
            for (int t = 0; t < 3; t++) {
                c.with("change", t, 3, said >> t & 1);
            }
            c.due((said & 1) == said >> 2 ? said & 1 : said >> 1 & 1, "of", 1, 5);
        }
        camp(DOUBTING, 0, 0, TENT, 1, 0).with("change", 1, 3, 1).due(0, "of", 0, 5).with("change", 0, 3, 1).due(1, "of", 0, 5)
                .with("change", 1, 3, 0).due(1, "of", 0, 5);

        term("CONTRARY: as a TENT, the other way round");
        camp(CONTRARY, 0, 0, MUTE, 1, 0).due(1, "of", 0, 5).with("change", 0, 3, 1).due(1, "of", 0, 5).with("change", 1, 3, 1).due(0, "of", 0, 5);
        camp(CONTRARY, 0, 0).due(0, "of", 0, 5).with("change", 0, 3, 1).due(1, "of", 0, 5);
    }

    static void days() {
        term("A DAY: all at once");
        camp(TENT, 0, 0, TENT, 1, 0).with("change", 0, 3, 1).with("days", 1).due(2, "now", 1).with("days", 1).due(1, "now", 1);
        rowOn().with("days", 1).due(2, "now", 1).with("days", 1).due(5, "now", 1);

        term("DAY is one more");
        run().due(0, "count", 0).with("days", 1).due(1, "count", 0).with("days", 1).due(2, "now", 0);
        lastDay().due(999999999, "count", 0).due(STATE, "days", 1).due(999999999, "count", 0);

        term("VOTE: how many SAY 1");
        Run c = ten().due(0, "count", 2);
        for (int t = 9; t >= 0; t--) {
            c.with("change", t, 3, 1).due(10 - t, "count", 2);
        }
        c.due(10, "now", 2);
        run().due(0, "now", 2);

        term("AHEAD: what is so DAYS on");
        rowOn().quiet(10, "saying", 3).quiet(1, "says", 3, 999999).quiet(2, "settles").quiet(2, "circle").due(0, "count", 0).due(1, "now", 1);
        rich().quiet(0, "judge", 2).due(7, "count", 0);
    }

    /** Comes to the last day, for which there is no way with as few calls as an object is promised for. */
    static Run lastDay() {
        Run c = run().longer();
        for (int i = 0; i < 9999; i++) {
            c.ask("days", 100000);
        }
        c.ask("days", 99999);
        return c;
    }

    static void lines() {
        term("A PAIR: two TENTS each of which HEARS the other one");
        row().due(1, "now", 3).due(3, "now", 4);
        camp(TENT, 0, 0).due(0, "now", 3);
        camp(ELDERLY, 0, 0, TENT, 1, 0).due(0, "now", 3).due(0, "now", 4);
        camp(TENT, 0, 0, ELDERLY, 1, 0).due(1, "now", 3);
        Run five = run();
        for (int i = 0; i < 10; i++) {
            five.with("tent", TENT, i / 2 * 2, i % 2 + i / 2 % 3 * 4);
        }
        five.due(5, "now", 3).due(1023, "now", 4);

        term("LINE of a TENT");
        Run c = ten();
        for (int t = 0; t < 10; t++) {
            c.due(Math.max(0, t - 1), "of", t, 6);
        }
        camp(TENT, 0, 0).due(-1, "of", 0, 6);
        camp(ELDERLY, 0, 0, ELDERLY, 1, 0, ELDERLY, 3, 0).due(-1, "of", 2, 6);
        camp(FARSIGHTED, 0, 0, ELDERLY, 10, 0, TENT, 11, 0, TENT, 9, 2).due(-1, "of", 0, 6).due(-1, "of", 3, 6);

        term("FOLLOWERS of a TENT");
        row().due(14, "of", 0, 7).due(13, "of", 1, 7).due(8, "of", 2, 7).due(0, "of", 3, 7);
        camp(TENT, 0, 0).due(0, "of", 0, 7);
        // A ring of 0, 2 and 1, and 3 behind it.
        camp(FARSIGHTED, 0, 0, ELDERLY, 10, 0, TENT, 11, 0, TENT, 9, 2).due(14, "of", 0, 7).due(13, "of", 1, 7).due(11, "of", 2, 7).due(0, "of", 3, 7);
        ten().due(1021, "of", 1, 7).due(1008, "of", 3, 7).due(512, "of", 8, 7);
    }

    static void draws() {
        term("DRAWS: z is told (1 at first)");
        run().due(1, "count", 6);
        // One camp of one tent takes one draw: the first from 1 is 1103527590.
        camp(TENT, 0, 0).with("camps", 1).due(1103527590, "count", 6);
        for (int z : new int[] {MIN, MAX, -1, 0, 2, -77, 715827882}) {
            int next = z * 1103515245 + 12345;
            Run c = camp(TENT, 0, 0).with("seed", z).with("camps", 1).due(next, "count", 6);
            int then = next * 1103515245 + 12345;
            c.with("seed", z).with("strew", 1).due(then, "count", 6)
                    .due((then >>> 8) % 144 % 12, "of", 0, 1).due((then >>> 8) % 144 / 12, "of", 0, 2);
        }
    }

    static void texts() {
        term("A TEXT is read from THE TAPE (bytes, at most 120)");
        run().feeds(" ".repeat(116)).due(120, "feed", 0x66726565, 4).refused(FULL, "feed", 0x20, 1).due(1, "text");
        run().feeds("free" + " ".repeat(115)).due(120, "feed", 0x78, 1).due(-1 - 119, "text");
        run().due(-1, "text");

        term("TOKENS, each as long as can be");
        text(2, "tent at 0 0;wall 5");
        text(2, "tent at0 0on;wall 5bridge6");
        text(2, "  tent   at  0   0  on  ;  wall  5  ");
        text(-1, "tentat 0 0");
        text(-1 - 8, "tent at 00012 0");
        text(1, "tent at 00011 000000000000");
        text(-1 - 8, "tent at 999 0");
        text(-1 - 8, "tent at 1000 0");
        text(-1 - 8, "tent at 4294967296 0");
        text(-1 - 8, "tent at 18446744073709551616 0");
        text(-1 - 10, "tent at 1 " + "9".repeat(110));
        text(-1, "freez");
        text(-1, "afree");
        text(-1 - 10, "tent at 1 12345");
        text(3, "tent at 9 0on;wall 10;wall 09");
        for (char c : new char[] {'`', '{', 'A', 'Z', '/', ':', '<', '\t', '\n', 0, 31, 33, 127, 128, 160, 255}) {
            text(-1 - 4, "free" + c);
            text(-1 - 5, "free;" + c + "free");
            text(-1 - 5, "wall " + c);
        }

        term("TEXT: ITEM { ; ITEM }");
        text(-1, "");
        text(-1 - 3, "   ");
        text(1, "free");
        text(3, "free;free;free");
        text(24, "free;".repeat(23) + "free");
        text(-1 - 5, "free;");
        text(-1 - 5, "free;;free");
        text(-1, ";free");
        text(-1 - 5, "free free");

        term("ITEM: tent, elderly, prophet");
        String[] kinds = {"tent", "elderly", "prophet", "mute", "doubting", "contrary", "farsighted"};
        for (int kind = 0; kind < 7; kind++) {
            run().feeds(kinds[kind] + " at 11 0").due(1, "text").due(kind, "of", 0, 0).due(11, "of", 0, 1).due(0, "of", 0, 2).due(0, "of", 0, 3);
            run().feeds(kinds[kind] + " at 0 11 on").due(1, "text").due(kind, "of", 0, 0).due(0, "of", 0, 1).due(11, "of", 0, 2).due(1, "of", 0, 3);
        }
        rich().with("wipe").feeds("wall 0").due(1, "text").due(0, "count", 3).due(7, "count", 4);
        rich().with("wipe").feeds("wall 11 bridge 0").due(1, "text").due(11, "count", 3).due(0, "count", 4);
        rich().with("wipe").feeds("wall 1 bridge 11").due(1, "text").due(1, "count", 3).due(11, "count", 4).due(0, "wall", 2, 0);
        run().feeds("free").due(1, "text").due(0, "wall", 2, 0);
        rich().with("wipe").feeds("counted").due(1, "text").due(1, "wall", 2, 0);

        faults();
    }

    static void faults() {
        term("FAULT: the place (from 0)");
        text(-1 - 8, "tent at 12 0");
        text(-1 - 10, "tent at 0 12");
        text(-1 - 5, "wall 12");
        text(-1 - 14, "wall 1 bridge 12");
        text(-1 - 24, "tent at 3 4;mute at 03  04 on");
        camp(TENT, 3, 4).feeds("mute at 3 4").due(-1 - 10, "text");
        text(-1, "tents at 0 0");
        text(-1, "at");
        text(-1, "on");
        text(-1, "bridge 3");
        text(-1, "7");
        text(-1 - 5, "tent on 0 0");
        text(-1 - 8, "tent at on 0");
        text(-1 - 10, "tent at 0 on");
        text(-1 - 9, "tent at 0;0");
        text(-1 - 12, "tent at 0 0 off");
        text(-1 - 15, "tent at 0 0 on on");
        text(-1 - 12, "tent at 0 0 0");
        text(-1 - 5, "wall bridge 3");
        text(-1 - 7, "wall 3 on");
        text(-1 - 14, "wall 3 bridge on");
        text(-1 - 16, "wall 3 bridge 4 5");
        text(-1 - 7, "wall 3 4");
        text(-1 - 8, "counted on");
        text(-1 - 12, "tent at 0 0;tend at 1 1");
        text(-1 - 6, "wall 3,wall 4");
        ten().feeds("free; mute at 0 0").due(-1 - 6, "text");
        ten().feeds("mute on").due(-1, "text");
        otherWords("tent at 0 0", 0, 4);
        otherWords("elderly at 0 0", 0, 7);
        otherWords("prophet at 0 0", 0, 7);
        otherWords("mute at 0 0", 0, 4);
        otherWords("doubting at 0 0", 0, 8);
        otherWords("contrary at 0 0", 0, 8);
        otherWords("farsighted at 0 0", 0, 10);
        otherWords("tent at 0 0", 5, 7);
        otherWords("tent at 0 0 on", 12, 14);
        otherWords("wall 3 bridge 4", 0, 4);
        otherWords("wall 3 bridge 4", 7, 13);
        otherWords("counted", 0, 7);
        otherWords("free", 0, 4);
        text(-1 - 4, "tent");
        text(-1 - 6, "tent  ");
        text(-1 - 7, "tent at");
        text(-1 - 9, "tent at 0");
        text(-1 - 10, "tent at 0 ");
        text(-1 - 4, "wall");
        text(-1 - 13, "wall 3 bridge");
        text(-1 - 120, "free;".repeat(24));
    }

    /** A word of a text with another letter, one less, one more, or a great one: the fault is where it begins. */
    static void otherWords(String text, int begin, int end) {
        String ahead = text.substring(0, begin), word = text.substring(begin, end), behind = text.substring(end);
        text(1, text);
        for (int i = 0; i < word.length(); i++) {
            char other = word.charAt(i) == 'x' ? 'y' : 'x';
            text(-1 - begin, ahead + word.substring(0, i) + other + word.substring(i + 1) + behind);
            text(-1 - begin, ahead + word.substring(0, i) + other + word.substring(i) + behind);
        }
        text(-1 - begin, ahead + word + "x" + behind);
        text(-1 - begin, ahead + word.substring(0, word.length() - 1) + behind);
        text(-1 - begin, ahead + word.substring(1) + behind);
        text(-1 - begin, ahead + Character.toUpperCase(word.charAt(0)) + word.substring(1) + behind);
    }

    static void text(int due, String text) {
        run().feeds(text).due(due, "text").due(0, "count", 5).due(0, "status", -1);
    }

    static void spotsAndSheets() {
        term("SPOTS 0 to 9 hold a TENT or nothing (at first)");
        for (int spot = 0; spot < 10; spot++) {
            camp(TENT, 1, 1).refused(MISSING, "as", spot, 0).due(1, "hold", spot, 0).due(0, "as", spot, 0).due(1, "count", 7)
                    .due(1, "hold", spot, -1).refused(MISSING, "as", spot, 0);
        }
        camp(TENT, 1, 1).refused(BEYOND, "hold", 10, 0).refused(BEYOND, "hold", -1, 0);

        term("SHEETS 0 to 3: rows of at most 40 numbers");
        for (int s = 0; s < 4; s++) {
            run().refused(MISSING, "judge", s).due(40, "sheet", s, 8, 40).due(0, "judge", s);
        }
        run().refused(BEYOND, "sheet", 4, 8, 1).refused(BEYOND, "sheet", -1, 8, 1).refused(BEYOND, "sheet", 0, 8, 41);
        // Of 8 bits 255 is no VOTE and neither 0 nor 1, but 257 is 1.
        camp(TENT, 0, 0).with("sheet", 0, 8, 1).with("write", 0, 0, 255).due(0, "load", 0).due(1, "judge", 0)
                .with("write", 0, 0, 257).due(1, "load", 0).due(0, "judge", 0);
    }
}
