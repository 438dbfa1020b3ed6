import java.util.Random;

/** Section 2 element by element: all that is reckoned, with the least, greatest and strange NUMBERS. */
public final class OpsTest {
    private static final String[] OPS = {"add", "sub", "mul", "div", "rem", "min", "max"};
    private static final String[] ONE = {"copy", "single", "whole"};

    public static void main(String[] args) {
        Random random = new Random(7);
        for (int turn = 0; turn < 400; turn++) {
            VectorPipes x = new VectorPipes();
            Oracle o = new Oracle();
            for (int a = 0; a < 32; a++) {
                fill(x, o, random, a);
            }
            run(x, o, "load va at 0 by 1; load vb at 16 by 1; load vf at 32 by 1; mul va va vf; mul va va vf;"
                + " mul va va vf; mul va va vf; mul va va vf; load vf at 48 by 1; mul vb vb vf; mul vb vb vf; mul vb vb vf;");
            StringBuilder text = new StringBuilder();
            for (String op : OPS) {
                text.append(op).append(" vc va vb;");
                text.append("store vc at 0 by 1;").append(op).append(" vd vb va;").append("store vd at 16 by 1;");
                run(x, o, text.toString());
                text.setLength(0);
            }
            for (String op : ONE) {
                run(x, o, op + " vc va;" + op + " vd vb; store vc at 0 by 1; store vd at 16 by 1; odd vc; count sa;");
            }
            run(x, o, "less va vb; count sa; flip; count sb; same va vb; count sc; odd va; pack vc va; count sd;");
            run(x, o, "top sa va; top sb vb; fold sc va; fold sd vb;");
        }
        exact();
        Check.end();
    }

    private static void fill(VectorPipes x, Oracle o, Random random, int a) {
        long m = random.nextInt(3) == 0 ? random.nextInt(5) - 2 : random.nextLong() >> 10 + random.nextInt(50);
        int e = random.nextInt(401) - 200;
        x.poke(a, m, e);
        o.memory[a] = m * Math.pow(2, e);
        if (random.nextInt(8) == 0) {
            int kind = 1 + random.nextInt(5);
            x.strange(a, kind);
            o.memory[a] = new double[] {0, 0, -0.0, 1 / 0.0, -1 / 0.0, 0 / 0.0}[kind];
        }
        int scale = (random.nextInt(3) - 1) * (random.nextInt(30) + 171);
        x.poke(32 + a, 1, scale);
        o.memory[32 + a] = Math.pow(2, scale);
    }

    private static void run(VectorPipes x, Oracle o, String text) {
        o.text.clear();
        for (String one : text.split(";")) {
            o.text.add(one.trim().split(" "));
        }
        Check.program(x, text);
        o.run();
        Check.due("run of " + text, x.run(), o.done);
        Check.due("ran(0) of " + text, x.ran(0), o.cycles);
        for (int r = 0; r < 6; r++) {
            for (int i = 0; i < 16 && o.rows[r] != null; i++) {
                Oracle.told(x, text + " element(" + r + ", " + i + ")", x.element(r, i), o.rows[r][i]);
            }
        }
        for (int s = 0; s < 4; s++) {
            Oracle.told(x, text + " scalar(" + s + ")", x.scalar(s), o.scalars[s]);
        }
    }

    /** A few by hand, so that both machines can't be wrong alike. */
    private static void exact() {
        one("rem", 7, -2, 0, 1, 0);
        one("rem", -7, 2, 0, -1, 0);
        one("rem", -6, 2, 2, 0, 0);
        one("rem", 6, 2, 1, 0, 0);
        one("rem", 6, 0, 5, 0, 0);
        one("div", 6, 0, 3, 0, 0);
        one("div", -6, 0, 4, 0, 0);
        one("div", 0, 0, 5, 0, 0);
        one("div", 1, 4, 0, 1, -2);
        one("min", 3, -4, 0, -1, 2);
        one("max", 3, -4, 0, 3, 0);
        one("sub", 3, 5, 0, -1, 1);
        one("copy", 3, 5, 0, 3, 0);
        one("single", 16777217, 0, 0, 1, 24);
        one("single", 16777219, 0, 0, 4194305, 2);
        one("whole", -5, 0, 0, -5, 0);
        VectorPipes x = new VectorPipes();
        x.put(0, 0, -3, -1);
        x.rule(0, 1);
        Check.program(x, "whole vb va;");
        x.run();
        Check.told(x, "whole of -1.5", x.element(1, 0), 0, -1, 0);
        x.put(0, 0, 1, 100);
        x.run();
        Check.told(x, "whole of 2^100", x.element(1, 0), 0, 1, 63);
        x.put(0, 0, -1, -3);
        x.run();
        Check.told(x, "whole of -1/8", x.element(1, 0), 1, 0, 0);
        x.strange(0, 5);
        Check.program(x, "load va at 0 by 0; whole vb va;");
        x.run();
        Check.told(x, "whole of no number", x.element(1, 0), 1, 0, 0);
    }

    private static void one(String op, long a, long b, int kind, long mantissa, int exponent) {
        VectorPipes x = new VectorPipes();
        x.put(0, 0, a, 0);
        x.put(1, 0, b, 0);
        x.rule(0, 1);
        boolean single = op.equals("copy") || op.equals("single") || op.equals("whole");
        Check.due(op, Check.program(x, op + (single ? " vc va;" : " vc va vb;")), 1);
        Check.due("run() of " + op, x.run(), 1);
        Check.told(x, op + " of " + a + ", " + b, x.element(2, 0), kind, mantissa, exponent);
    }
}
