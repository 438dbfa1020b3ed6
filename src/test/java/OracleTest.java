import java.util.Random;

/** Random programs, states and runs against the second machine: promises 12 to 19, 23 to 28, 34 to 38. */
public final class OracleTest {
    private static final String[] TWO = {"add", "sub", "mul", "div", "rem", "min", "max"};
    private static final String[] ONE = {"copy", "single", "whole"};

    private static Random random;

    public static void main(String[] args) {
        int[] ends = new int[13];
        for (int seed = 0; seed < 6000; seed++) {
            random = new Random(seed);
            one(seed, ends);
        }
        // the random runs are of use only if they come to all kinds of ends
        Check.due("runs without a TRAP are many", ends[0] > 1500, true);
        for (int trap = 1; trap <= 3; trap++) {
            Check.due("runs with TRAP " + trap + " are many", ends[trap] > 100, true);
        }
        Check.due("swaps that gain are many", ends[4] > 100, true);
        Check.due("swaps that lose are many", ends[5] > 100, true);
        Check.due("strips are many", ends[6] > 500, true);
        Check.end();
    }

    private static int upTo(int most) {
        return random.nextInt(most + 1);
    }

    private static void one(int seed, int[] ends) {
        VectorPipes x = new VectorPipes();
        Oracle o = new Oracle();
        state(x, o);
        program(x, o);
        String name = "seed " + seed + " ";
        compare(name + "ahead", x, o);
        still(name, x, o, ends);
        for (int turn = 0; turn < 1 + upTo(1); turn++) {
            o.run();
            ends[o.trap]++;
            int got = x.run();
            Check.due(name + "run()", got, o.trap == 0 ? o.done : -1);
            Check.due(name + "status()", x.status(), o.trap == 0 ? 0 : 12);
            runs(name, x, o);
            compare(name + "behind", x, o);
        }
        for (String[] words : o.text) {
            ends[6] += words[0].equals("strip") ? 1 : 0;
        }
    }

    private static void state(VectorPipes x, Oracle o) {
        boolean calm = upTo(2) > 0;
        for (int a = 0; a < 64; a++) {
            int e = upTo(9) == 0 ? upTo(400) - 200 : upTo(3) - 2;
            long m = calm ? upTo(40) - 20 : random.nextLong() >> 10 + upTo(50);
            if (e == 200 || !calm && upTo(5) == 0) {
                int kind = 1 + upTo(4);
                x.strange(a, kind);
                double[] of = {0, 0, -0.0, 1 / 0.0, -1 / 0.0, 0 / 0.0};
                o.memory[a] = of[kind];
            } else {
                x.poke(a, m, e);
                o.memory[a] = m * Math.pow(2, e);
            }
        }
        for (int s = 0; s < 4; s++) {
            int m = upTo(20) - 10;
            x.give(s, m, 1);
            o.scalars[s] = 2.0 * m;
        }
        for (int r = 0; r < 6; r++) {
            int kind = upTo(4);
            for (int i = 0; kind > 0 && i < 16; i++) {
                int m = kind == 1 ? i : upTo(70) - 3;
                x.put(r, i, m, kind == 4 ? -1 : 0);
                o.rows[r] = o.rows[r] == null ? new double[16] : o.rows[r];
                o.rows[r][i] = kind == 4 ? m / 2.0 : m;
            }
        }
        o.vl = upTo(3) == 0 ? upTo(16) : 1 + upTo(6);
        x.rule(0, o.vl);
        o.banks = 1 + upTo(15);
        x.rule(1, o.banks);
        o.busy = 1 + upTo(11);
        x.rule(2, o.busy);
        int bits = upTo(65535);
        x.rule(3, bits);
        for (int i = 0; i < 16; i++) {
            o.mask[i] = (bits >> i & 1) != 0;
        }
    }

    private static String row() {
        return "v" + (char) ('a' + upTo(5));
    }

    private static String scalar() {
        return "s" + (char) ('a' + upTo(3));
    }

    private static String instruction() {
        int at = upTo(3) == 0 ? upTo(63) : upTo(20);
        int by = upTo(8) == 0 ? upTo(16) : upTo(3);
        String masked = upTo(2) == 0 ? " masked" : "";
        switch (upTo(21)) {
            case 0:
                return "setvl " + upTo(upTo(1) == 0 ? 16 : 4);
            case 1:
                return "iota " + row();
            case 2:
                return "fill " + row() + " " + scalar();
            case 3:
            case 4:
                return "load " + row() + " at " + at + " by " + by;
            case 5:
                return "store " + row() + " at " + at + " by " + by;
            case 6:
                return "gather " + row() + " at " + at + " of " + row();
            case 7:
                return "scatter " + row() + " at " + at + " of " + row();
            case 8:
                return (upTo(1) == 0 ? "less " : "same ") + row() + " " + row();
            case 9:
                return "odd " + row();
            case 10:
                return "flip";
            case 11:
                return "pack " + row() + " " + row();
            case 12:
                return "count " + scalar();
            case 13:
                return (upTo(1) == 0 ? "fold " : "top ") + scalar() + " " + row();
            case 14:
                return upTo(4) == 0 ? "stop" : "iota " + row();
            case 15:
            case 16:
                return ONE[upTo(2)] + " " + row() + " " + row() + masked;
            default:
                return TWO[upTo(6)] + " " + row() + " " + row() + " " + row() + masked;
        }
    }

    private static void program(VectorPipes x, Oracle o) {
        StringBuilder text = new StringBuilder();
        int many = 1 + upTo(11);
        boolean within = false;
        for (int k = 0; k < many; k++) {
            String next = instruction();
            if (upTo(7) == 0) {
                next = within ? "end" : "strip " + (upTo(2) == 0 ? upTo(200) : upTo(40));
                within = !within;
            }
            o.text.add(next.split(" "));
            text.append(next).append(upTo(1) == 0 ? ";" : " ;\n");
        }
        if (within) {
            o.text.add(new String[] {"end"});
            text.append("end;");
        }
        Check.due("program", Check.program(x, text.toString()), o.instructions());
    }

    private static void compare(String name, VectorPipes x, Oracle o) {
        int there = 0;
        for (int r = 0; r < 6; r++) {
            there |= o.rows[r] == null ? 0 : 1 << r;
            for (int i = 0; i < 16; i++) {
                if (o.rows[r] == null) {
                    Check.refused(x, name + " element", x.element(r, i), 3);
                } else {
                    Oracle.told(x, name + " element(" + r + ", " + i + ")", x.element(r, i), o.rows[r][i]);
                }
            }
        }
        for (int a = 0; a < 64; a++) {
            Oracle.told(x, name + " word(" + a + ")", x.word(a), o.memory[a]);
        }
        for (int s = 0; s < 4; s++) {
            Oracle.told(x, name + " scalar(" + s + ")", x.scalar(s), o.scalars[s]);
        }
        int bits = 0;
        for (int i = 0; i < 16; i++) {
            bits |= o.mask[i] ? 1 << i : 0;
        }
        int[] many = {o.vl, o.banks, o.busy, bits, o.instructions(), there};
        for (int what = 0; what < 6; what++) {
            Check.due(name + " many(" + what + ")", x.many(what), many[what]);
        }
    }

    private static void runs(String name, VectorPipes x, Oracle o) {
        int[] ran = {o.cycles, o.stalls, o.done, o.trap, o.trapAt, o.trapElement};
        for (int what = 0; what < 6; what++) {
            Check.due(name + "ran(" + what + ")", x.ran(what), ran[what]);
        }
        for (int k = 0; k < o.instructions(); k++) {
            Check.due(name + "time(" + k + ", 0)", x.time(k, 0), o.began[k]);
            Check.due(name + "time(" + k + ", 1)", x.time(k, 1), o.ended[k]);
        }
    }

    private static void still(String name, VectorPipes x, Oracle o, int[] ends) {
        int best = -1;
        int most = 0;
        for (int k = 0; k < o.instructions(); k++) {
            for (int j = 0; j < k; j++) {
                Check.due(name + "depends(" + j + ", " + k + ")", x.depends(j, k), o.depends(j, k));
            }
            int gain = o.swapGain(k);
            boolean refused = gain < -1000000;
            Check.due(name + "swapGain(" + k + ")", x.swapGain(k), refused ? -1 : gain);
            Check.due(name + "status()", x.status(), refused ? -1000000 - gain : 0);
            ends[4] += gain > 0 ? 1 : 0;
            ends[5] += gain < 0 && !refused ? 1 : 0;
            best = gain > most ? k : best;
            most = Math.max(gain, most);
        }
        Check.due(name + "bestSwap()", x.bestSwap(), best);
        Check.due(name + "status()", x.status(), best < 0 ? 8 : 0);
        for (int r = 0; r < 6; r++) {
            if (o.rows[r] != null) {
                Check.due(name + "sums(" + r + ")", x.sums(r), o.sums(r));
                for (int what = 0; what < 3; what++) {
                    Oracle.told(x, name + "sum(" + r + ", " + what + ")", x.sum(r, what), o.sum(r, what));
                }
            }
        }
    }
}
