/** Promises 24 to 26: runs, their TRAPS and TIMES, worked out by hand from the document. */
public final class RunsTest {
    public static void main(String[] args) {
        chains();
        hazards();
        masks();
        zeroLength();
        packs();
        ends();
        banks();
        strips();
        trapsAndMissing();
        refusals();
        Check.end();
    }

    private static VectorPipes with(int vl, String text) {
        VectorPipes x = new VectorPipes();
        x.rule(0, vl);
        for (int r = 0; r < 4; r++) {
            for (int i = 0; i < 16; i++) {
                x.put(r, i, i + 1, 0);
            }
        }
        Check.due("program of " + text, Check.program(x, text) >= 0, true);
        return x;
    }

    /** Runs it, then asks the beginning and the last time of each INSTRUCTION, -1 for none. */
    private static VectorPipes timed(int vl, String text, int cycles, int... times) {
        VectorPipes x = with(vl, text);
        x.run();
        times(x, text, cycles, times);
        return x;
    }

    private static void times(VectorPipes x, String text, int cycles, int... times) {
        Check.fine(x, "ran(0) of " + text, x.ran(0), cycles);
        for (int k = 0; k < times.length; k++) {
            String call = "time(" + k / 2 + ", " + k % 2 + ") of " + text;
            Check.due(call, x.time(k / 2, k % 2), times[k]);
            Check.due(call + " status()", x.status(), times[k] < 0 ? 8 : 0);
        }
    }

    private static void chains() {
        // each LATENCY: what follows takes element 0 when it is READY
        timed(4, "load ve at 0 by 1; add vf ve ve;", 11, 0, 3, 1, 8);
        timed(4, "mul ve va vb; add vf ve ve;", 10, 0, 3, 1, 7);
        timed(4, "div ve va vb; add vf ve ve;", 13, 0, 3, 1, 10);
        timed(4, "rem ve va vb; mul vf ve ve;", 14, 0, 3, 1, 10);
        // the same UNIT is FREE one behind the last element
        timed(4, "add ve va vb; sub vf ve ve;", 10, 0, 3, 4, 7);
        timed(4, "mul ve va vb; mul vf va vb;", 11, 0, 3, 4, 7);
        timed(3, "div ve va vb; rem vf va vb;", 12, 0, 2, 3, 5);
        timed(3, "load ve at 0 by 1; store va at 8 by 1;", 7, 0, 2, 3, 6);
        // unlike UNITS begin one behind another
        timed(4, "add ve va vb; mul vf va vb; div va vc vd;", 12, 0, 3, 1, 4, 2, 5);
        timed(1, "setvl 2; stop; iota va;", 1, 0, -1, 1, -1, -1, -1);
    }

    private static void hazards() {
        // a ROW that is read is written no earlier than one behind: TAKEN less LATENCY
        timed(2, "div ve va vb; add vf ve ve; mul ve vc vd;", 11, 0, 1, 1, 8, 2, 5);
        // write behind write
        timed(2, "div ve va vb; add ve vc vd;", 9, 0, 1, 1, 6);
        // in place
        timed(2, "add va va va; mul va va va;", 8, 0, 1, 1, 4);
        // fold waits for all elements, then nothing BEGINS ahead of its end
        timed(4, "mul ve va vb; fold sa ve; iota vf;", 19, 0, 3, 7, 13, 13, 16);
        timed(1, "mul ve va vb; top sa ve; iota vf;", 8, 0, 0, 4, 4, 5, 5);
        timed(5, "fold sa va; count sb; setvl 1; flip;", 12, 0, 9, 9, 10, 10, -1, 11, -1);
        timed(0, "fold sa va; top sb va; iota vf;", 2, 0, 0, 1, 1, 2, -1);
        // fold READ its ROW when it BEGAN; pack waits for that
        timed(1, "fold sa va; pack va vb;", 1, 0, 0, 1, 1);
    }

    private static void masks() {
        // less READY at 3 + 3 -> masked BEGINS then
        timed(4, "less va vb; add ve va vb masked;", 12, 0, 3, 6, 9);
        timed(4, "add ve va vb masked; less va vb;", 10, 0, 3, 4, 7);
        // the MASK was READ by the multiplier's last element at 3
        timed(4, "mul ve va vb masked; same va vb; odd va;", 15, 0, 3, 3, 6, 9, 12);
        timed(4, "mul ve va vb masked; flip; flip; count sa;", 7, 0, 3, 3, -1, 4, -1, 5, 6);
        timed(4, "odd va; flip; flip; count sa;", 9, 0, 3, 6, -1, 7, -1, 8, 9);
        timed(4, "count sa; flip; copy ve va masked;", 8, 0, 1, 1, -1, 2, 5);
        VectorPipes x = with(4, "less va vb; flip; count sa;");
        x.rule(3, 0xff05);
        x.run();
        Check.fine(x, "many(3)", x.many(3), 0xff0f);
        Check.whole(x, "scalar(0)", x.scalar(0), 4);
        x = with(16, "same va vb; count sa;");
        x.run();
        Check.fine(x, "many(3)", x.many(3), 65535);
        Check.whole(x, "scalar(0)", x.scalar(0), 16);
    }

    private static void zeroLength() {
        // with VL 0 the UNIT and the MASK's times stay as they were, but flip and count are as told
        timed(4, "mul ve va vb; setvl 0; mul vf va vb; setvl 4; mul vf va vb;", 13,
            0, 3, 1, -1, 4, -1, 5, -1, 6, 9);
        timed(0, "less va vb; odd va; add ve va vb masked; flip; flip; count sa;", 6,
            0, -1, 1, -1, 2, -1, 3, -1, 4, -1, 5, 6);
        VectorPipes x = timed(0, "load ve at 63 by 16; gather ve at 0 of vf; pack vf ve; copy vf ve; fold sa ve; top sb ve;",
            5, 0, -1, 1, -1, 2, -1, 3, -1, 4, 4, 5, 5);
        Check.fine(x, "ran(3)", x.ran(3), 0);
        Check.fine(x, "many(5)", x.many(5), 15);
        Check.told(x, "fold of nothing", x.scalar(0), 1, 0, 0);
        Check.told(x, "top of nothing", x.scalar(1), 4, 0, 0);
    }

    private static void packs() {
        VectorPipes x = with(4, "pack va vb; mul ve va vb;");
        x.rule(3, 0b1010);
        x.run();
        // va[0], va[1] are READY 3 behind the last that was TAKEN, va[2] as ahead
        times(x, "pack", 13, 0, 3, 1, 9);
        Check.whole(x, "element(0, 0)", x.element(0, 0), 2);
        Check.whole(x, "element(0, 1)", x.element(0, 1), 4);
        Check.whole(x, "element(0, 2)", x.element(0, 2), 3);
        x = with(4, "pack vf vb;");
        x.run();
        Check.fine(x, "many(5): none is packed", x.many(5), 15);
        times(x, "pack none", 3, 0, 3);
        // pack waits until D is READY and was READ
        timed(2, "div ve va vb; pack ve va;", 9, 0, 1, 8, 9);
        timed(2, "mul ve va vb; div vf ve va; pack ve va;", 12, 0, 1, 1, 5, 5, 6);
    }

    private static void ends() {
        VectorPipes x = timed(3, "load ve at 62 by 1; iota vf;", 6, 0, 1, -1, -1);
        Check.due("status()", x.status(), 8);
        Check.fine(x, "ran(1)", x.ran(1), 0);
        Check.fine(x, "ran(2)", x.ran(2), 0);
        Check.fine(x, "ran(3)", x.ran(3), 1);
        Check.fine(x, "ran(4)", x.ran(4), 0);
        Check.fine(x, "ran(5)", x.ran(5), 2);
        Check.fine(x, "many(5)", x.many(5), 31);
        timed(3, "fold sa vf;", 0, 0, -1);
        timed(3, "mul ve va vb; top sa vf;", 6, 0, 2, 1, -1);
    }

    private static void banks() {
        // BUSY 4, BANKS 8: each element in the same BANK waits 3
        VectorPipes x = timed(4, "load ve at 0 by 8;", 17, 0, 12);
        Check.fine(x, "ran(1)", x.ran(1), 9);
        x = timed(4, "load ve at 5 by 0; store va at 13 by 1;", 19, 0, 12, 13, 19);
        Check.fine(x, "ran(1)", x.ran(1), 9 + 3);
        x = with(4, "store va at 0 by 2;");
        x.rule(1, 2);
        x.rule(2, 2);
        Check.fine(x, "run()", x.run(), 1);
        times(x, "store by 2", 6, 0, 6);
        Check.fine(x, "ran(1)", x.ran(1), 3);
        for (int i = 0; i < 4; i++) {
            Check.whole(x, "word(2 i)", x.word(2 * i), i + 1);
            Check.whole(x, "word(2 i + 1)", x.word(2 * i + 1), 0);
        }
        // waiting for what is READY is no STALL
        x = timed(2, "div ve va vb; store ve at 0 by 8;", 11, 0, 1, 1, 11);
        Check.fine(x, "ran(1)", x.ran(1), 3);
        x = with(3, "scatter va at 10 of vb; gather ve at 10 of vb;");
        Check.fine(x, "run()", x.run(), 2);
        for (int i = 1; i <= 3; i++) {
            Check.whole(x, "word(10 + i)", x.word(10 + i), i);
            Check.whole(x, "element(4, i)", x.element(4, i - 1), i);
        }
        times(x, "gather", 11, 0, 2, 3, 6);
        Check.fine(x, "ran(1)", x.ran(1), 1);
    }

    private static void strips() {
        VectorPipes x = with(5, "strip 20; load va at 0 by 1; add vb va va; store vb at 32 by 1; end; iota ve;");
        x.rule(1, 16);
        x.rule(2, 1);
        for (int a = 0; a < 20; a++) {
            x.poke(a, a + 1, 0);
        }
        Check.fine(x, "run()", x.run(), 8);
        for (int a = 0; a < 20; a++) {
            Check.whole(x, "word(32 + " + a + ")", x.word(32 + a), 2 * a + 2);
        }
        Check.whole(x, "word(52)", x.word(52), 0);
        Check.fine(x, "many(0)", x.many(0), 5);
        Check.fine(x, "ran(2)", x.ran(2), 8);
        // strip 0; load 1 to 16, add 6 to 21, store 17 to 32, end 18; load 33 to 36, add 38 to 41 (its UNIT is
        // FREE at 42), store 41 to 44, end 38; iota 42
        times(x, "strip 20", 49, 0, -1, 33, 36, 34, 41, 37, 44, 42, 46);
        x = timed(5, "strip 0; iota vf; end; iota ve;", 8, 0, -1, -1, -1, 1, 5);
        Check.fine(x, "ran(2)", x.ran(2), 2);
        x = timed(5, "strip 1; end; iota ve;", 9, 0, -1, 2, 6);
        Check.fine(x, "ran(2)", x.ran(2), 2);
        x = timed(5, "strip 33; end; iota ve;", 11, 0, -1, 4, 8);
        x = timed(5, "strip 33; setvl 2; end; stop;", 7, 0, -1, 5, -1, 7, -1);
        Check.fine(x, "many(0) behind strip", x.many(0), 5);
        Check.fine(x, "ran(2)", x.ran(2), 5);
        x = timed(5, "strip 33; iota ve; setvl 3; stop; end; iota vf;", 19, 0, -1, 1, 16, 2, -1, 3, -1, -1, -1);
        Check.fine(x, "many(0) behind stop", x.many(0), 3);
        Check.fine(x, "ran(2)", x.ran(2), 4);
        x = with(2, "strip 40; load ve at 40 by 1; end;");
        Check.refused(x, "run()", x.run(), 12);
        Check.fine(x, "many(0) behind a TRAP", x.many(0), 16);
        Check.fine(x, "ran(2)", x.ran(2), 2);
        Check.fine(x, "ran(5)", x.ran(5), 8);
        Check.fine(x, "time(1, 0)", x.time(1, 0), 17);
        Check.fine(x, "time(1, 1)", x.time(1, 1), 24);
        // nothing of a strip that was left by a TRAP, by a stop is there in the run behind
        Check.program(x, "setvl 2; load vf at 0 by 1; load vf at 62 by 1; stop;");
        Check.fine(x, "run() behind a TRAP within a strip", x.run(), 4);
        Check.program(x, "strip 40; setvl 3; stop; end;");
        Check.fine(x, "run() with a stop within a strip", x.run(), 3);
        Check.program(x, "setvl 2; load vf at 0 by 1; load vf at 62 by 1; count sa; stop;");
        Check.fine(x, "run() behind a stop within a strip", x.run(), 5);
        Check.fine(x, "many(0)", x.many(0), 2);
        x = with(2, "strip 40; load ve at 30 by 2; end;");
        Check.refused(x, "run()", x.run(), 12);
        Check.fine(x, "ran(5)", x.ran(5), 1);
        x = with(2, "strip 20; load ve at 48 by 1; end;");
        Check.refused(x, "run()", x.run(), 12);
        Check.fine(x, "ran(5)", x.ran(5), 0);
        Check.refused(x, "time(1, 1) of the time that TRAPPED", x.time(1, 1), 8);
        Check.fine(x, "time(1, 0)", x.time(1, 0), 17);
    }

    private static void trap(String text, int kind, int at, int element) {
        VectorPipes x = with(4, text);
        x.put(3, 2, 3, -1);
        Check.refused(x, "run() of " + text, x.run(), 12);
        Check.fine(x, "ran(3) of " + text, x.ran(3), kind);
        Check.fine(x, "ran(4) of " + text, x.ran(4), at);
        Check.fine(x, "ran(5) of " + text, x.ran(5), element);
    }

    private static void trapsAndMissing() {
        trap("flip; add ve va vf;", 2, 1, 0);
        trap("add ve vf va;", 2, 0, 0);
        trap("less ve va;", 2, 0, 0);
        trap("less va ve;", 2, 0, 0);
        trap("odd ve;", 2, 0, 0);
        trap("pack va ve;", 2, 0, 0);
        trap("copy va ve masked;", 2, 0, 0);
        trap("store ve at 0 by 1;", 2, 0, 0);
        trap("scatter ve at 0 of vd;", 2, 0, 0);
        trap("gather ve at 0 of vf;", 2, 0, 0);
        trap("gather ve at 63 of vd;", 1, 0, 0);
        trap("gather ve at 0 of vd;", 3, 0, 2);
        trap("scatter va at 0 of vd;", 3, 0, 2);
        trap("scatter va at 62 of vb;", 1, 0, 1);
        trap("store va at 60 by 2;", 1, 0, 2);
        offsets();
        VectorPipes x = with(4, "copy ve va masked; copy vf va masked;");
        x.run();
        Check.fine(x, "many(5): none came", x.many(5), 15);
        x.rule(3, 0b100);
        Check.fine(x, "run()", x.run(), 2);
        Check.fine(x, "many(5)", x.many(5), 63);
        Check.whole(x, "element(4, 2)", x.element(4, 2), 3);
        Check.whole(x, "element(4, 1)", x.element(4, 1), 0);
        Check.whole(x, "element(4, 3)", x.element(4, 3), 0);
        x = with(3, "fill ve sb; iota va; count sa; top sc vb; fold sd vb;");
        x.give(1, 5, 0);
        x.rule(3, 0b1110);
        Check.fine(x, "run()", x.run(), 5);
        Check.whole(x, "element(4, 2)", x.element(4, 2), 5);
        Check.whole(x, "element(4, 3)", x.element(4, 3), 0);
        Check.whole(x, "element(0, 2)", x.element(0, 2), 2);
        Check.whole(x, "element(0, 3)", x.element(0, 3), 4);
        Check.whole(x, "scalar(0)", x.scalar(0), 2);
        Check.whole(x, "scalar(2)", x.scalar(2), 3);
        Check.whole(x, "scalar(3)", x.scalar(3), 6);
    }

    private static void offsets() {
        VectorPipes x = with(1, "gather ve at 40 of va;");
        long[][] asked = {{1000000, 0, 1}, {1000001, 0, 3}, {-1000000, 0, 1}, {-1000001, 0, 3}, {1, -1, 3}, {-1, -1, 3},
            {1, 60, 3}, {1, 200, 3}, {-41, 0, 1}, {-40, 0, 0}, {23, 0, 0}, {24, 0, 1}, {1, -200, 3}, {2000001, -1, 3}};
        for (long[] one : asked) {
            x.put(0, 0, one[0], (int) one[1]);
            int got = x.run();
            Check.due("run() by " + one[0] + " e " + one[1], got, one[2] == 0 ? 1 : -1);
            Check.fine(x, "ran(3) by " + one[0] + " e " + one[1], x.ran(3), one[2]);
        }
        Check.program(x, "load va at 0 by 0; gather ve at 40 of va;");
        for (int kind = 1; kind <= 5; kind++) {
            x.strange(0, kind);
            x.run();
            Check.fine(x, "ran(3) by KIND " + kind, x.ran(3), kind < 3 ? 0 : 3);
        }
    }

    private static void refusals() {
        VectorPipes x = new VectorPipes();
        Check.program(x, "flip;");
        Check.refused(x, "time(0, 0) ahead of a run", x.time(0, 0), 8);
        Check.refused(x, "ran(6) ahead of a run", x.ran(6), 5);
        Check.refused(x, "ran(3) ahead of a run", x.ran(3), 8);
        Check.fine(x, "run()", x.run(), 1);
        Check.fine(x, "ran(3)", x.ran(3), 0);
        Check.refused(x, "ran(4)", x.ran(4), 8);
        Check.refused(x, "ran(5)", x.ran(5), 8);
        Check.refused(x, "ran(-1)", x.ran(-1), 5);
        Check.fine(x, "time(0, 0)", x.time(0, 0), 0);
        Check.refused(x, "time(0, 1)", x.time(0, 1), 8);
        Check.refused(x, "time(0, 2)", x.time(0, 2), 5);
        Check.refused(x, "time(0, -1)", x.time(0, -1), 5);
        Check.refused(x, "time(1, 2)", x.time(1, 2), 2);
        Check.refused(x, "time(-1, 0)", x.time(-1, 0), 2);
        x.swapGain(0);
        Check.fine(x, "time(0, 0) behind swapGain", x.time(0, 0), 0);
        Check.program(x, "count sa;");
        Check.refused(x, "time(0, 0) of another PROGRAM", x.time(0, 0), 8);
        Check.fine(x, "ran(0) of the run ahead", x.ran(0), 1);
        Check.program(x, " ");
        Check.refused(x, "run() of nothing", x.run(), 8);
        Check.fine(x, "ran(2) of the run ahead", x.ran(2), 1);
    }
}
