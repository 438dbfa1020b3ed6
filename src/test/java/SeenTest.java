/** Promises 27 to 36: what is seen without a run. */
public final class SeenTest {
    public static void main(String[] args) {
        sums();
        halvings();
        alone();
        dependences();
        swaps();
        Check.end();
    }

    private static void sums() {
        VectorPipes x = new VectorPipes();
        long[] values = {1, 1, 1L << 53, -(1L << 53), 1};
        for (int i = 0; i < 5; i++) {
            x.put(2, i, values[i], 0);
        }
        Check.refused(x, "sum(6, 3)", x.sum(6, 3), 2);
        Check.refused(x, "sum(-1, 0)", x.sum(-1, 0), 2);
        Check.refused(x, "sum(0, 3)", x.sum(0, 3), 3);
        Check.refused(x, "sum(2, 3)", x.sum(2, 3), 5);
        Check.refused(x, "sum(2, -1)", x.sum(2, -1), 5);
        Check.refused(x, "sums(6)", x.sums(6), 2);
        Check.refused(x, "sums(-1)", x.sums(-1), 2);
        Check.refused(x, "sums(0)", x.sums(0), 3);
        x.rule(0, 5);
        // forwards 2 + 2^53 - 2^53 + 1; backwards 1 - 2^53 rounds to -2^53 + 1; halving below
        Check.whole(x, "sum(2, 0)", x.sum(2, 0), 3);
        Check.whole(x, "sum(2, 1)", x.sum(2, 1), 3);
        // (1 - 2^53) (1 + 1) 2^53, then (1 - 2^53 + 2^53), 2: 3
        Check.whole(x, "sum(2, 2)", x.sum(2, 2), 3);
        Check.fine(x, "sums(2)", x.sums(2), 1);
        x.rule(0, 4);
        Check.whole(x, "sum(2, 0) of four", x.sum(2, 0), 2);
        Check.whole(x, "sum(2, 1) of four", x.sum(2, 1), 2);
        // 1 + 2^53 is 2^53; 1 - 2^53 is exact: 1
        Check.whole(x, "sum(2, 2) of four", x.sum(2, 2), 1);
        Check.fine(x, "sums(2) of four", x.sums(2), 2);
        unlike();
        x.rule(0, 0);
        Check.told(x, "sum(2, 0) of none", x.sum(2, 0), 1, 0, 0);
        Check.told(x, "sum(2, 2) of none", x.sum(2, 2), 1, 0, 0);
        Check.fine(x, "sums(2) of none", x.sums(2), 1);
    }

    private static void unlike() {
        VectorPipes x = new VectorPipes();
        // forwards 2^53 swallows each 1: 0; backwards -(2^53) + 1 + 1 is exact: 2; halving has one of both: 1
        long[] values = {1L << 53, 1, 1, -(1L << 53)};
        for (int i = 0; i < 4; i++) {
            x.put(0, i, values[i], 0);
        }
        x.rule(0, 4);
        Check.whole(x, "sum(0, 0)", x.sum(0, 0), 0);
        Check.whole(x, "sum(0, 2)", x.sum(0, 2), 1);
        Check.whole(x, "sum(0, 1)", x.sum(0, 1), 2);
        Check.fine(x, "sums(0)", x.sums(0), 3);
        Check.due("mantissa() behind sums", x.mantissa(), 1);
        Check.due("exponent() behind sums", x.exponent(), 1);
        // a sum of one is that one, minus 0 as well
        Check.program(x, "load vb at 0 by 0;");
        x.strange(0, 2);
        x.run();
        for (int vl = 1; vl <= 4; vl++) {
            x.rule(0, vl);
            for (int what = 0; what < 3; what++) {
                Check.told(x, "sum(1, " + what + ") of minus 0", x.sum(1, what), 2, 0, 0);
            }
            Check.fine(x, "sums(1) of minus 0", x.sums(1), 1);
        }
        x.strange(0, 5);
        x.run();
        Check.told(x, "sum(1, 0) of no number", x.sum(1, 0), 5, 0, 0);
        Check.fine(x, "sums(1) of no number", x.sums(1), 1);
        infinite(x);
    }

    private static void infinite(VectorPipes x) {
        x.rule(0, 4);
        x.strange(0, 3);
        x.poke(1, 3, 0);
        x.strange(2, 4);
        x.poke(3, 1, 0);
        Check.program(x, "load vb at 0 by 1;");
        x.run();
        Check.told(x, "sum(1, 0) of infinite ones", x.sum(1, 0), 5, 0, 0);
        Check.fine(x, "sums(1)", x.sums(1), 1);
        x.rule(0, 2);
        Check.told(x, "sum(1, 1) of an infinite one", x.sum(1, 1), 3, 0, 0);
        // two great ones are infinite together, but not when a minus infinite one is ahead of them
        x.rule(0, 3);
        x.strange(2, 4);
        x.poke(0, (1L << 53) - 1, 200);
        x.poke(1, (1L << 53) - 1, 200);
        x.poke(3, 1, 200);
        x.poke(4, 1, 171);
        Check.program(x, "load va at 3 by 0; load vc at 4 by 0; load vb at 0 by 1; mul vb vb va; mul vb vb va;"
            + " mul vb vb va; mul vb vb vc;");
        x.run();
        Check.told(x, "the greatest NUMBER", x.element(1, 0), 0, (1L << 53) - 1, 971);
        Check.told(x, "sum(1, 0) of the greatest", x.sum(1, 0), 5, 0, 0);
        Check.told(x, "sum(1, 1) of the greatest", x.sum(1, 1), 4, 0, 0);
        Check.fine(x, "sums(1) of the greatest", x.sums(1), 2);
        Check.program(x, "sub vd vf vb;");
        for (int i = 0; i < 3; i++) {
            x.put(5, i, 0, 0);
        }
        x.run();
        Check.told(x, "the least NUMBER", x.element(3, 0), 0, 1 - (1L << 53), 971);
    }

    private static void halvings() {
        VectorPipes x = new VectorPipes();
        for (int n = 1; n <= 16; n++) {
            x = new VectorPipes();
            int[] round = new int[16];
            int[] partner = new int[16];
            int turn = 0;
            for (int left = n; left > 1; turn++) {
                int h = left / 2 + left % 2;
                for (int i = 0; i < left - h; i++) {
                    round[i + h] = turn;
                    partner[i + h] = i;
                }
                left = h;
            }
            for (int i = 1; i < n; i++) {
                Check.fine(x, "roundOf(" + n + ", " + i + ")", x.roundOf(n, i), round[i]);
                Check.fine(x, "partnerOf(" + n + ", " + i + ")", x.partnerOf(n, i), partner[i]);
            }
            halvingRefusals(x, n, 0, 8);
            halvingRefusals(x, n, n, 2);
            halvingRefusals(x, n, -1, 2);
        }
        Check.fine(x, "roundOf(16, 1)", x.roundOf(16, 1), 3);
        Check.fine(x, "partnerOf(5, 4)", x.partnerOf(5, 4), 1);
        halvingRefusals(x, 0, 0, 2);
        halvingRefusals(x, -3, 1, 2);
        halvingRefusals(x, 17, 0, 5);
        halvingRefusals(x, 17, 16, 5);
        halvingRefusals(x, 17, 17, 2);
        halvingRefusals(x, Integer.MAX_VALUE, 5, 5);
        halvingRefusals(x, Integer.MIN_VALUE, -5, 2);
    }

    private static void halvingRefusals(VectorPipes x, int n, int i, int status) {
        Check.refused(x, "roundOf(" + n + ", " + i + ")", x.roundOf(n, i), status);
        Check.refused(x, "partnerOf(" + n + ", " + i + ")", x.partnerOf(n, i), status);
    }

    private static void alone() {
        VectorPipes x = new VectorPipes();
        // BANKS 8, BUSY 4
        Check.fine(x, "stalls(0, 1, 64)", x.stalls(0, 1, 64), 0);
        Check.fine(x, "stalls(0, 8, 4)", x.stalls(0, 8, 4), 9);
        Check.fine(x, "stalls(63, 0, 64)", x.stalls(63, 0, 64), 189);
        Check.fine(x, "stalls(0, 2, 16)", x.stalls(0, 2, 16), 0);
        Check.fine(x, "stalls(0, 4, 4)", x.stalls(0, 4, 4), 2);
        Check.fine(x, "stalls(5, 64, 3)", x.stalls(5, 64, 3), 6);
        Check.fine(x, "stalls(0, 8, 0)", x.stalls(0, 8, 0), 0);
        Check.fine(x, "stalls(0, 8, 1)", x.stalls(0, 8, 1), 0);
        x.rule(1, 5);
        x.rule(2, 3);
        // places go round the MEMORY: 62, 63, 0, 1 are in BANKS 2, 3, 0, 1
        Check.fine(x, "stalls(62, 1, 4)", x.stalls(62, 1, 4), 0);
        // 60, 0, 4: BANKS 0, 0, 4
        Check.fine(x, "stalls(60, 4, 3)", x.stalls(60, 4, 3), 2);
        Check.fine(x, "stalls(60, 4, 2)", x.stalls(60, 4, 2), 2);
        Check.fine(x, "banksFor(0, 1, 16)", x.banksFor(0, 1, 16), 3);
        Check.fine(x, "banksFor(0, 2, 3)", x.banksFor(0, 2, 3), 3);
        Check.fine(x, "banksFor(0, 4, 3)", x.banksFor(0, 4, 3), 3);
        Check.fine(x, "banksFor(0, 3, 3)", x.banksFor(0, 3, 3), 4);
        Check.fine(x, "banksFor(0, 0, 1)", x.banksFor(0, 0, 1), 1);
        Check.fine(x, "banksFor(0, 0, 0)", x.banksFor(0, 0, 0), 1);
        x.rule(2, 8);
        Check.fine(x, "banksFor(0, 6, 12)", x.banksFor(0, 6, 12), 16);
        x.rule(2, 3);
        Check.refused(x, "banksFor(0, 64, 2)", x.banksFor(0, 64, 2), 8);
        Check.refused(x, "banksFor(7, 0, 2)", x.banksFor(7, 0, 2), 8);
        Check.fine(x, "worst(0, 3)", x.worst(0, 3), 5);
        Check.fine(x, "worst(0, 1)", x.worst(0, 1), 1);
        Check.fine(x, "worst(0, 0)", x.worst(0, 0), 1);
        x.rule(1, 16);
        x.rule(2, 12);
        Check.fine(x, "worst(3, 64)", x.worst(3, 64), 16);
        x.rule(1, 1);
        Check.fine(x, "worst(3, 64) of one BANK", x.worst(3, 64), 1);
        x.rule(2, 1);
        Check.fine(x, "stalls(0, 0, 64) of BUSY 1", x.stalls(0, 0, 64), 0);
        aloneRefusals(x);
    }

    private static void aloneRefusals(VectorPipes x) {
        int[][] bad = {{64, 65, 65, 2}, {-1, 0, 0, 2}, {0, -1, 0, 5}, {0, 65, 0, 5}, {0, 0, -1, 5}, {0, 0, 65, 5}};
        for (int[] one : bad) {
            Check.refused(x, "stalls " + one[0], x.stalls(one[0], one[1], one[2]), one[3]);
            Check.refused(x, "banksFor " + one[0], x.banksFor(one[0], one[1], one[2]), one[3]);
        }
        Check.refused(x, "worst(64, 65)", x.worst(64, 65), 2);
        Check.refused(x, "worst(-1, 0)", x.worst(-1, 0), 2);
        Check.refused(x, "worst(0, 65)", x.worst(0, 65), 5);
        Check.refused(x, "worst(0, -1)", x.worst(0, -1), 5);
    }

    private static void tie(String first, String second, int due) {
        VectorPipes x = new VectorPipes();
        Check.program(x, first + ";" + second + ";" + (second.startsWith("strip") ? "end;" : ""));
        Check.fine(x, "depends of " + first + "; " + second, x.depends(0, 1), due);
    }

    private static void dependences() {
        tie("iota va", "iota vb", 0);
        tie("iota va", "iota va", 4);
        tie("iota va", "copy vb va", 1);
        tie("copy vb va", "iota va", 2);
        tie("iota va", "add va va vb", 5);
        tie("add va va vb", "add va va vb", 7);
        tie("add va vb vc", "add vb va vd", 3);
        tie("iota va", "add va vb vc masked", 5);
        tie("add va vb vc masked", "iota va", 6);
        tie("less va vb", "same va vb", 4);
        tie("odd va", "copy vb vc masked", 1);
        tie("copy vb vc masked", "less va vd", 2);
        tie("flip", "flip", 7);
        tie("flip", "count sa", 1);
        tie("count sa", "flip", 2);
        tie("odd va", "flip", 5);
        tie("flip", "odd va", 6);
        tie("pack va vb", "flip", 2);
        tie("flip", "pack va vb", 1);
        tie("pack va vb", "iota va", 4);
        tie("pack va vb", "store va at 0 by 1", 1);
        tie("count sa", "fill va sa", 1);
        tie("fill va sa", "fold sa vb", 2);
        tie("fold sa va", "top sa vb", 4);
        tie("fold sa va", "top sb va", 0);
        tie("iota va", "top sb va", 1);
        tie("load va at 0 by 1", "load vb at 9 by 1", 0);
        tie("load va at 0 by 1", "store vb at 9 by 1", 2);
        tie("store vb at 9 by 1", "gather va at 0 of vc", 1);
        tie("store vb at 9 by 1", "scatter va at 0 of vc", 4);
        tie("gather va at 0 of vb", "iota vb", 2);
        tie("scatter va at 0 of vb", "iota va", 2);
        tie("iota vb", "scatter va at 0 of vb", 1);
        tie("iota va", "less vb va", 1);
        tie("iota va", "odd va", 1);
        tie("setvl 1", "setvl 2", 4);
        tie("setvl 1", "flip", 1);
        tie("count sa", "setvl 1", 2);
        tie("stop", "iota va", 7);
        tie("iota va", "stop", 7);
        tie("setvl 1", "strip 3", 7);
        VectorPipes x = new VectorPipes();
        Check.program(x, "strip 3; iota va; end; iota vb;");
        Check.fine(x, "depends(0, 1)", x.depends(0, 1), 7);
        Check.fine(x, "depends(0, 2)", x.depends(0, 2), 7);
        Check.fine(x, "depends(1, 2)", x.depends(1, 2), 0);
        Check.refused(x, "depends(1, 1)", x.depends(1, 1), 9);
        Check.refused(x, "depends(2, 1)", x.depends(2, 1), 9);
        Check.refused(x, "depends(3, 1)", x.depends(3, 1), 2);
        Check.refused(x, "depends(0, 3)", x.depends(0, 3), 2);
        Check.refused(x, "depends(-1, 1)", x.depends(-1, 1), 2);
        Check.refused(x, "depends(1, -1)", x.depends(1, -1), 2);
    }

    private static void swaps() {
        VectorPipes x = new VectorPipes();
        x.rule(0, 2);
        // iota 0 (READY 3), div 3 (10), iota 2 (5), div 5 (12), the last element one behind; the other way
        // round the same times but for the div's beginning
        Check.program(x, "iota va; div ve va va; iota vb; div vf vb vb;");
        x.mark();
        Check.fine(x, "run()", x.run(), 4);
        Check.fine(x, "ran(0)", x.ran(0), 13);
        x.back();
        Check.refused(x, "swapGain(0)", x.swapGain(0), 9);
        Check.fine(x, "swapGain(1)", x.swapGain(1), 0);
        Check.refused(x, "swapGain(2)", x.swapGain(2), 9);
        Check.refused(x, "swapGain(3)", x.swapGain(3), 2);
        Check.refused(x, "swapGain(-1)", x.swapGain(-1), 2);
        Check.fine(x, "many(5): nothing changes", x.many(5), 0);
        Check.refused(x, "time(0, 0): nothing changes", x.time(0, 0), 8);
        gains();
        x = new VectorPipes();
        Check.program(x, "iota va; strip 3; iota va; end; iota vb; stop; iota vc;");
        for (int k = 0; k < 5; k++) {
            Check.refused(x, "swapGain(" + k + ")", x.swapGain(k), 9);
        }
        Check.refused(x, "bestSwap()", x.bestSwap(), 8);
        x = new VectorPipes();
        Check.program(x, "iota va; copy vb vf; iota vc;");
        Check.refused(x, "swapGain(0) of what TRAPS", x.swapGain(0), 12);
        Check.refused(x, "swapGain(2)", x.swapGain(2), 2);
        Check.refused(x, "bestSwap() of what TRAPS", x.bestSwap(), 8);
        x.rule(0, 0);
        Check.fine(x, "swapGain(0) of VL 0", x.swapGain(0), 0);
        Check.refused(x, "bestSwap() of VL 0", x.bestSwap(), 8);
    }

    private static void gains() {
        VectorPipes x = new VectorPipes();
        x.put(0, 0, 1, 0);
        x.rule(0, 1);
        // mul 0 (READY 4), fold 4, iota 5 (8); the other way round iota 1 (4), fold 4
        Check.program(x, "mul vb va va; fold sa vb; iota vc;");
        Check.fine(x, "swapGain(1)", x.swapGain(1), 4);
        Check.fine(x, "bestSwap()", x.bestSwap(), 1);
        Check.program(x, "mul vb va va; iota vc; fold sa vb;");
        Check.fine(x, "swapGain(1) back", x.swapGain(1), -4);
        Check.refused(x, "bestSwap()", x.bestSwap(), 8);
        // by -1, so that STATUS alone tells it from a refusal
        Check.program(x, "fold sa va; mul vb va va;");
        Check.fine(x, "swapGain(0)", x.swapGain(0), 1);
        Check.program(x, "mul vb va va; fold sa va;");
        Check.fine(x, "swapGain(0) by -1", x.swapGain(0), -1);
        // two that gain alike, the first is told: mul 0, fold 4, iota 5, mul 6, fold 10; either way fold 9
        Check.program(x, "mul vb va va; fold sa vb; iota vc; mul vd va va; fold sb vd;");
        Check.fine(x, "swapGain(1) of five", x.swapGain(1), 1);
        Check.fine(x, "swapGain(2) of five", x.swapGain(2), 1);
        Check.fine(x, "bestSwap() of five", x.bestSwap(), 1);
        // the last gains more: mul 0, fold 4, iota 5, mul 6, fold 10, iota 11 (14)
        Check.program(x, "mul vb va va; fold sa vb; iota vc; mul vd va va; fold sb vd; iota ve;");
        Check.fine(x, "swapGain(1) of six", x.swapGain(1), 1);
        Check.fine(x, "swapGain(4) of six", x.swapGain(4), 4);
        Check.fine(x, "bestSwap() of six", x.bestSwap(), 4);
        x.run();
        int cycles = x.ran(0);
        x.swapGain(0);
        x.bestSwap();
        Check.fine(x, "ran(0) behind trials", x.ran(0), cycles);
    }
}
