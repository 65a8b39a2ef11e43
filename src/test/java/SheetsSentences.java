/** A test of its own for each sentence of promises 38 to 44. */
final class SheetsSentences extends Sentences {
    static void all() {
        hold();
        as();
        sheet();
        write();
        copy();
        load();
        judge();
    }

    /** Ten mute ones: what load() gave them is what now(1) tells, as bits. */
    static Run readers() {
        Run c = run();
        for (int i = 0; i < 10; i++) {
            c.with("tent", MUTE, i, 0);
        }
        return c;
    }

    static Run writes(Run c, int s, int... numbers) {
        for (int i = 0; i < numbers.length; i++) {
            c.with("write", s, i, numbers[i]);
        }
        return c;
    }

    static void hold() {
        promise(38, "A SPOT holds a TENT, or nothing (-1): 1");
        Run c = rich();
        for (int spot = 0; spot < 10; spot++) {
            c.due(1, "hold", spot, spot % 4).due(spot % 4, "as", spot, TENT);
        }
        c.due(10, "count", 7).due(1, "hold", 9, -1).due(1, "hold", 0, -1).due(8, "count", 7).due(1, "hold", 0, -1).due(8, "count", 7).due(MISSING, "as", 9, TENT)
                .due(1, "hold", 1, 3).due(1, "hold", 2, 3).due(3, "as", 1, TENT).due(3, "as", 2, TENT);
        run().due(1, "hold", 0, -1).due(0, "count", 7);
        ten().due(1, "hold", 9, 9).due(9, "as", 9, TENT);

        promise(38, "BEYOND");
        rich().bounds(0, 0, 9, "hold", 0, 0).bounds(0, 0, 9, "hold", 0, -1).bounds(1, -1, 3, "hold", 9, 0);
        run().refused(BEYOND, "hold", 0, 0).refused(BEYOND, "hold", 0, -2).refused(BEYOND, "hold", 10, -1);
    }

    static void as() {
        promise(39, "What a SPOT holds as one of a kind (0 to 6)");
        rich().quiet(0, "as", 9, TENT).quiet(0, "as", 9, PROPHET).quiet(1, "as", 5, ELDERLY).due(1, "as", 5, TENT);
        Run c = camp(FARSIGHTED, 0, 0).with("hold", 0, 0).with("hold", 9, 0);
        c.due(0, "as", 0, FARSIGHTED).due(0, "as", 9, CONTRARY).due(0, "as", 9, TENT);

        promise(39, "BEYOND");
        rich().bounds(0, 0, 9, "as", 0, 0).bounds(1, 0, 6, "as", 9, 0).bounds(1, 0, 6, "as", 0, 0);
        run().refused(BEYOND, "as", 10, 0).refused(BEYOND, "as", 0, 7);

        promise(39, "MISSING: it holds nothing");
        rich().refused(MISSING, "as", 0, TENT).refused(MISSING, "as", 8, FARSIGHTED).with("hold", 9, -1).refused(MISSING, "as", 9, TENT);
        run().refused(MISSING, "as", 0, 0).refused(MISSING, "as", 9, 6);

        promise(39, "KIND: it isn't of that kind, nor of one under it");
        int[] above = {-1, TENT, TENT, PROPHET, ELDERLY, TENT, CONTRARY};
        for (int kind = 0; kind < 7; kind++) {
            for (int as = 0; as < 7; as++) {
                Run one = camp(MUTE, 0, 0, kind, 5, 5).with("hold", 3, 1);
                if (as == kind || as == above[kind] || as == TENT) {
                    one.quiet(1, "as", 3, as);
                } else {
                    one.refused(KIND, "as", 3, as);
                }
            }
        }
        // It is the kind that the tent is of now that counts.
        rich().with("change", 1, 0, CONTRARY).refused(KIND, "as", 5, ELDERLY).due(1, "as", 5, CONTRARY);
    }

    static void sheet() {
        promise(40, "A sheet has n numbers, all 0");
        for (int bits : new int[] {8, 16, 32}) {
            readers().due(40, "sheet", 0, bits, 40).due(1, "write", 0, 39, 1).due(BEYOND, "write", 0, 40, 1).due(40, "judge", 0)
                    .due(40, "sheet", 0, bits, 40).due(0, "judge", 0).due(1, "write", 0, 0, 1).due(0, "sheet", 0, bits, 0).due(0, "judge", 0)
                    .due(BEYOND, "write", 0, 0, 0).due(1, "sheet", 0, bits, 1).due(0, "judge", 0).due(BEYOND, "write", 0, 1, 0);
        }
        // None of the others changes.
        rich().due(4, "sheet", 3, 8, 4).due(0, "sheet", 3, 0, 4).likens(rich(), "sheet(3, ..) and missing again");
        rich().due(0, "sheet", 0, 0, 0).due(MISSING, "load", 0).due(0, "sheet", 0, 0, 40).due(MISSING, "write", 0, 0, 0);
        run().due(0, "sheet", 0, 0, 0).due(0, "sheet", 3, 0, 40);

        promise(40, "BEYOND: no such sheet, other bits");
        rich().bounds(0, 0, 3, "sheet", 0, 8, 1).bounds(0, 0, 3, "sheet", 0, 0, 0)
                .refusesAll(BEYOND, 1, new int[] {-32, -16, -8, -1, 1, 7, 9, 15, 17, 24, 31, 33, 64, MIN, MAX}, "sheet", 0, 8, 1)
                .refused(BEYOND, "sheet", 4, 8, -1).refused(BEYOND, "sheet", 0, 1, -1);

        promise(40, "SIZE: n is below 0 (also with bits 0)");
        for (int bits : new int[] {0, 8, 16, 32}) {
            rich().refusesAll(SIZE, 2, new int[] {-1, -40, MIN}, "sheet", 1, bits, 0);
            rich().due(0, "sheet", 1, bits, 0);
        }

        promise(40, "BEYOND: n is above 40 (also with bits 0)");
        for (int bits : new int[] {0, 8, 16, 32}) {
            rich().refusesAll(BEYOND, 2, new int[] {41, 1000, MAX}, "sheet", 1, bits, 0);
            rich().due(bits == 0 ? 0 : 40, "sheet", 1, bits, 40);
        }
    }

    static void write() {
        promise(41, "Number i of a sheet becomes v (its lowest bits): 1");
        int[][] ones = {{8, 1, 257, -255, 0x7fffff01, MIN + 1}, {16, 1, 65537, -65535, 0x7fff0001, MIN + 1}, {32, 1}};
        int[][] zeros = {{8, 0, 256, -256, MIN, 65536}, {16, 0, 65536, -65536, MIN}, {32, 0}};
        int[][] others = {{8, 255, -1, 128, 2, 0x101 + 1, MAX}, {16, 65535, -1, 257, 256, 32768, MAX}, {32, -1, 257, 65537, 65536, 256, MIN, MAX, MIN + 1}};
        for (int i = 0; i < 3; i++) {
            for (int v = 1; v < ones[i].length; v++) {
                readers().with("sheet", 0, ones[i][0], 1).due(1, "write", 0, 0, ones[i][v]).due(1, "load", 0).due(1, "now", 1);
            }
            for (int v = 1; v < zeros[i].length; v++) {
                readers().with("sheet", 0, zeros[i][0], 1).with("write", 0, 0, 1).due(1, "write", 0, 0, zeros[i][v]).due(1, "load", 0).due(0, "now", 1);
            }
            for (int v = 1; v < others[i].length; v++) {
                readers().with("sheet", 0, others[i][0], 1).due(1, "write", 0, 0, others[i][v]).due(0, "load", 0).due(1, "judge", 0);
            }
        }
        Run c = readers().with("sheet", 3, 8, 10);
        for (int i = 0; i < 10; i++) {
            c.due(1, "write", 3, i, 1).due(10, "load", 3).due((2 << i) - 1, "now", 1);
        }
        // A vote of ten, of each size.
        for (int bits : new int[] {8, 16, 32}) {
            c.with("sheet", 0, bits, 1).due(1, "write", 0, 0, 10).due(0, "judge", 0).due(1, "write", 0, 0, 11).due(1, "judge", 0);
        }

        writeFindings();
    }

    static void writeFindings() {
        promise(41, "BEYOND: no such sheet");
        Run four = run();
        for (int s = 0; s < 4; s++) {
            four.with("sheet", s, 8, 1);
        }
        four.bounds(0, 0, 3, "write", 0, 0, 1);
        rich().refusesAll(BEYOND, 0, new int[] {-1, 4, MIN, MAX}, "write", 0, 0, 1);

        promise(41, "MISSING");
        rich().refused(MISSING, "write", 3, 0, 0).refused(MISSING, "write", 3, -1, 0).refused(MISSING, "write", 3, 40, 0).with("sheet", 1, 0, 0)
                .refused(MISSING, "write", 1, 0, 0);

        promise(41, "BEYOND: no such number");
        rich().bounds(1, 0, 2, "write", 0, 0, 1).bounds(1, 0, 3, "write", 1, 0, 1).refusesAll(BEYOND, 1, new int[] {-1, 0, 1, 40, MIN, MAX}, "write", 2, 0, 1);
        run().with("sheet", 0, 8, 40).bounds(1, 0, 39, "write", 0, 0, 1);
    }

    static void copy() {
        promise(42, "n numbers of a sheet from one on come to another one");
        for (int bits : new int[] {8, 16, 32}) {
            Run c = readers().with("sheet", 0, bits, 5).with("sheet", 1, bits, 6);
            writes(c, 0, 1, 0, 1, 1, 0);
            c.due(5, "copy", 0, 0, 1, 0, 5).due(6, "load", 1).due(0b001101, "now", 1);
            c.due(2, "copy", 0, 2, 1, 4, 2).due(6, "load", 1).due(0b111101, "now", 1).due(5, "load", 0).due(0b101101, "now", 1);
        }
        // Onto itself, forwards and backwards: as they all were.
        Run c = writes(readers().with("sheet", 2, 16, 6), 2, 1, 0, 1, 1, 0, 0);
        c.due(5, "copy", 2, 0, 2, 1, 5).due(6, "load", 2).due(0b011011, "now", 1).due(5, "copy", 2, 1, 2, 0, 5).due(6, "load", 2).due(0b001101, "now", 1);
        c.due(6, "copy", 2, 0, 2, 0, 6).due(6, "load", 2).due(0b001101, "now", 1).quiet(0, "copy", 2, 6, 2, 6, 0).quiet(0, "copy", 2, 0, 2, 6, 0);
        rich().quiet(0, "copy", 2, 0, 2, 0, 0).quiet(0, "copy", 0, 3, 0, 0, 0);
        run().with("sheet", 0, 8, 40).with("sheet", 1, 8, 40).due(40, "copy", 0, 0, 1, 0, 40).due(1, "copy", 0, 39, 1, 39, 1);

        promise(42, "BEYOND: no such sheet (either)");
        Run four = run();
        for (int s = 0; s < 4; s++) {
            four.with("sheet", s, 8, 1);
        }
        four.bounds(0, 0, 3, "copy", 0, 0, 1, 0, 1).bounds(2, 0, 3, "copy", 1, 0, 0, 0, 1);
        rich().refused(BEYOND, "copy", 3, 0, 4, 0, 0).refused(BEYOND, "copy", -1, 0, 3, 0, 0);

        promise(42, "MISSING: one is");
        rich().refused(MISSING, "copy", 3, 0, 0, 0, 0).refused(MISSING, "copy", 0, 0, 3, 0, 0).refused(MISSING, "copy", 3, 0, 3, 0, 0)
                .refused(MISSING, "copy", 2, 9, 3, -1, MIN);
        run().refused(MISSING, "copy", 0, 0, 1, 0, 0);

        promise(42, "KIND: they are not of as many bits");
        rich().refused(KIND, "copy", 0, 0, 1, 0, 0).refused(KIND, "copy", 1, 0, 0, 0, 1).refused(KIND, "copy", 0, 0, 2, 0, 0).refused(KIND, "copy", 2, 0, 1, 0, 0)
                .refused(KIND, "copy", 1, -1, 2, 41, MAX);

        promise(42, "BEYOND: one has not so many, or from, to or n is below 0");
        copyBeyond();
    }

    static void copyBeyond() {
        Run c = writes(readers().with("sheet", 0, 8, 4).with("sheet", 1, 8, 3), 0, 1, 0, 0, 1);
        c.bounds(4, 0, 3, "copy", 0, 0, 1, 0, 0).bounds(4, 0, 3, "copy", 1, 0, 0, 0, 0).bounds(4, 0, 4, "copy", 0, 0, 0, 0, 0);
        c.bounds(1, 0, 3, "copy", 0, 0, 1, 0, 1).bounds(3, 0, 2, "copy", 0, 0, 1, 0, 1).bounds(1, 0, 2, "copy", 0, 0, 1, 0, 2);
        c.bounds(1, 0, 4, "copy", 0, 0, 1, 0, 0).bounds(3, 0, 3, "copy", 0, 0, 1, 0, 0);
        c.refused(BEYOND, "copy", 0, MAX, 1, 0, MAX).refused(BEYOND, "copy", 0, 0, 1, MAX, MAX).refused(BEYOND, "copy", 0, 1, 1, 0, MAX)
                .refused(BEYOND, "copy", 0, MAX, 1, 0, 1).refused(BEYOND, "copy", 0, MIN, 1, MIN, MIN).refused(BEYOND, "copy", 0, -1, 1, 0, 2)
                .refused(BEYOND, "copy", 0, 3, 1, 2, -1).refused(BEYOND, "copy", 0, 4, 1, -1, 0).refused(BEYOND, "copy", 0, MIN, 1, 0, MIN);
        rich().refused(BEYOND, "copy", 2, 0, 2, 0, 1).refused(BEYOND, "copy", 2, 1, 2, 0, 0);
    }

    static void load() {
        promise(43, "Numbers of a sheet, from its begin on");
        for (int bits : new int[] {8, 16, 32}) {
            Run c = writes(ten().with("change", 9, 3, 1).with("change", 1, 3, 1).with("sheet", 0, bits, 3), 0, 1, 0, 1);
            c.due(3, "load", 0).due(512 + 5, "now", 1).due(0, "count", 0);
        }
        rich().quiet(0, "load", 2);
        rich().with("change", 0, 3, 1).due(2, "load", 0).due(0, "of", 0, 3).due(1, "of", 1, 3).due(1, "of", 2, 3);

        promise(43, "It ends at the first that isn't 0 or 1");
        for (int v : new int[] {2, -1, 127, 128, 255, 10}) {
            writes(ten().with("sheet", 0, 8, 4), 0, 1, 1, v, 1).due(2, "load", 0).due(3, "now", 1);
            writes(ten().with("sheet", 0, 8, 4), 0, v, 1, 1, 1).due(0, "load", 0).due(0, "now", 1);
        }
        writes(ten().with("sheet", 0, 32, 11), 0, 1, 1, 1, 1, 1, 1, 1, 1, 1, 1, 1).due(10, "load", 0).due(1023, "now", 1);
        writes(camp(TENT, 0, 0).with("sheet", 0, 32, 2), 0, 1, 1).due(1, "load", 0).due(1, "now", 1);
        // There is no tent, were the numbers right or not.
        writes(run().with("sheet", 0, 8, 40), 0, 1, 2).quiet(0, "load", 0);
        run().with("sheet", 0, 8, 0).quiet(0, "load", 0);

        promise(43, "BEYOND: no such sheet");
        rich().bounds(0, 0, 3, "load", 0);
        run().refused(BEYOND, "load", 4).refused(BEYOND, "load", -1);

        promise(43, "MISSING");
        rich().refused(MISSING, "load", 3).with("sheet", 0, 0, 3).refused(MISSING, "load", 0);
        run().refused(MISSING, "load", 0);
    }

    static void judge() {
        promise(44, "THE READER: numbers of a sheet are VOTES 1, 2, .. DAYS AHEAD");
        Run c = rowOn().with("sheet", 0, 8, 40).due(1, "judge", 0).with("write", 0, 0, 1).quiet(2, "judge", 0);
        for (int i = 1; i < 40; i++) {
            c.due(1 + i, "judge", 0).with("write", 0, i, 2);
        }
        c.due(0, "judge", 0).with("write", 0, 39, 3).due(40, "judge", 0);
        // The first day ahead, not this one: 0, 1, 2, 1, 0 says 1 in turn.
        writes(camp(TENT, 0, 0, CONTRARY, 1, 0).with("sheet", 0, 16, 5), 0, 1, 2, 1, 0, 1).quiet(0, "judge", 0).with("days", 1).due(1, "judge", 0);
        writes(run().with("sheet", 0, 32, 2), 0, 0, 1).due(2, "judge", 0).with("write", 0, 1, 0).due(0, "judge", 0);
        run().with("sheet", 0, 8, 0).quiet(0, "judge", 0);
        rich().quiet(0, "judge", 2);
        writes(camp(PROPHET, 0, 0).with("sheet", 0, 8, 2), 0, 1, -255).due(0, "judge", 0).with("write", 0, 0, -1).due(1, "judge", 0);

        promise(44, "BEYOND: no such sheet");
        rich().bounds(0, 0, 3, "judge", 0);
        run().refused(BEYOND, "judge", 4).refused(BEYOND, "judge", -1);

        promise(44, "MISSING");
        rich().refused(MISSING, "judge", 3).with("sheet", 0, 0, 3).refused(MISSING, "judge", 0);
        run().refused(MISSING, "judge", 0);
    }
}
