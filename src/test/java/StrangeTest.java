/**
 * Terms 1 and 2, NUMBERS at their edges: both zeros, infinite ones, no number, the greatest and the least,
 * halves, what is just whole and just not, each with each by every INSTRUCTION that reckons, as Java does it.
 */
public final class StrangeTest {
    private static final double INFINITE = Double.POSITIVE_INFINITY;
    private static final double[] VALUES = {0.0, -0.0, INFINITE, -INFINITE, Double.NaN, 1.0, -1.0, 0.5, -1.5, 3.0, -7.0,
        Double.MAX_VALUE, -Double.MAX_VALUE, Double.MIN_VALUE, -Double.MIN_VALUE, Double.MIN_NORMAL,
        Double.MIN_NORMAL - Double.MIN_VALUE, 9007199254740991.0, -9007199254740992.0, 4503599627370497.5,
        9223372036854775807.0, -9223372036854775808.0, 9223372036854774784.0, 1.8446744073709552E19, 1.0000000000000002,
        0.9999999999999999, -0.9999999999999999, 1.0E300, 1.0E-300, 3.4028234663852886E38, 3.4028235677973366E38,
        3.4028235677973362E38, 1.401298464324817E-45, 7.006492321624085E-46, 7.006492321624086E-46, 1.17549435E-38,
        1.00000005960464478, 1.0000000596046449, 16777217.0, 16777219.0, 2147483648.0, -2147483649.0, 1000000.0, 1.0E16};
    private static final String[] TWO = {"add", "sub", "mul", "div", "rem", "min", "max"};

    public static void main(String[] args) {
        for (int first = 0; first < VALUES.length; first += 8) {
            told(first);
            ones(first);
            for (int turn = 0; turn < VALUES.length; turn++) {
                pairs(first, turn);
            }
        }
        Check.end();
    }

    private static double value(int k) {
        return VALUES[k % VALUES.length];
    }

    private static int kind(double v) {
        if (v != v) {
            return 5;
        }
        if (v == 0) {
            return 1 / v > 0 ? 1 : 2;
        }
        return v == INFINITE ? 3 : v == -INFINITE ? 4 : 0;
    }

    /** The mantissa and the exponent that are told of a NUMBER of KIND 0. */
    private static long mantissa(double v) {
        long bits = Double.doubleToLongBits(v);
        long m = bits & (1L << 52) - 1;
        m = (bits >> 52 & 2047) == 0 ? m : m | 1L << 52;
        m >>= Long.numberOfTrailingZeros(m);
        return bits < 0 ? -m : m;
    }

    private static int exponent(double v) {
        long bits = Double.doubleToLongBits(v);
        long m = bits & (1L << 52) - 1;
        int e = (int) (bits >> 52 & 2047);
        m = e == 0 ? m : m | 1L << 52;
        return Math.max(e, 1) - 1075 + Long.numberOfTrailingZeros(m);
    }

    private static void same(VectorPipes x, String call, int got, double due) {
        int kind = kind(due);
        Check.due(call, got, kind);
        if (kind == 0 && got == 0) {
            Check.due(call + " mantissa()", x.mantissa(), mantissa(due));
            Check.due(call + " exponent()", x.exponent(), exponent(due));
        }
    }

    /** Eight values into WORDS 0 to 7, and eight into 8 to 15; what is beyond 2 to the 200 by steps of 200. */
    private static VectorPipes with(int first, int second) {
        VectorPipes x = new VectorPipes();
        x.rule(0, 16);
        int[] left = new int[16];
        for (int k = 0; k < 16; k++) {
            double v = k < 8 ? value(first + k) : value(second + k - 8);
            int kind = kind(v);
            if (kind != 0) {
                x.strange(k, kind);
            } else {
                int e = exponent(v);
                int at = Math.max(-200, Math.min(200, e));
                left[k] = e - at;
                x.poke(k, mantissa(v), at);
            }
        }
        Check.program(x, "load va at 0 by 1; load vb at 16 by 1; mul va va vb; store va at 0 by 1;");
        for (int turn = 0; turn < 5; turn++) {
            for (int k = 0; k < 16; k++) {
                int step = Math.max(-200, Math.min(200, left[k]));
                left[k] -= step;
                x.poke(16 + k, 1, step);
            }
            x.run();
        }
        x.rule(0, 8);
        return x;
    }

    private static void told(int first) {
        VectorPipes x = with(first, first + 8);
        for (int k = 0; k < 16; k++) {
            same(x, "word of " + value(first + k), x.word(k), value(first + k));
        }
    }

    private static void ones(int first) {
        VectorPipes x = with(first, first + 8);
        Check.program(x, "load va at 0 by 1; copy vb va; single vc va; whole vd va; odd va;");
        x.run();
        int odd = 0;
        for (int k = 0; k < 8; k++) {
            double v = value(first + k);
            same(x, "copy of " + v, x.element(1, k), v);
            same(x, "single of " + v, x.element(2, k), (double) (float) v);
            same(x, "whole of " + v, x.element(3, k), (double) (long) v);
            odd |= v != v ? 1 << k : 0;
        }
        Check.fine(x, "odd", x.many(3), odd);
        x.tray(0, 3, 8);
        x.peekAll(0, 0, 8);
        for (int k = 0; k < 8; k++) {
            Check.fine(x, "peekAll of " + value(first + k), x.read(0, k), (long) value(first + k));
        }
    }

    private static void pairs(int first, int turn) {
        VectorPipes x = with(first, first + turn);
        for (String two : TWO) {
            Check.program(x, "load va at 0 by 1; load vb at 8 by 1; " + two + " vc va vb;");
            x.run();
            for (int k = 0; k < 8; k++) {
                double a = value(first + k);
                double b = value(first + turn + k);
                same(x, two + " of " + a + ", " + b, x.element(2, k), by(two, a, b));
            }
        }
        int less = 0;
        int same = 0;
        for (int k = 0; k < 8; k++) {
            less |= value(first + k) < value(first + turn + k) ? 1 << k : 0;
            same |= value(first + k) == value(first + turn + k) ? 1 << k : 0;
        }
        Check.program(x, "less va vb;");
        x.run();
        Check.fine(x, "less of " + first + ", " + turn, x.many(3), less);
        Check.program(x, "same va vb; load vd at 0 by 8; setvl 2; fold sa vd; top sb vd;");
        x.rule(0, 2);
        x.run();
        Check.fine(x, "same of " + first + ", " + turn, x.many(3) & 3 | less & 252, same & 3 | less & 252);
        double a = value(first);
        double b = value(first + turn);
        same(x, "fold of " + a + ", " + b, x.scalar(0), a + b);
        same(x, "top of " + a + ", " + b, x.scalar(1), Math.max(a, b));
        for (int what = 0; what < 3; what++) {
            same(x, "sum of " + a + ", " + b, x.sum(3, what), a + b);
        }
        Check.fine(x, "sums of " + a + ", " + b, x.sums(3), 1);
    }

    private static double by(String two, double a, double b) {
        switch (two) {
            case "add":
                return a + b;
            case "sub":
                return a - b;
            case "mul":
                return a * b;
            case "div":
                return a / b;
            case "rem":
                return a % b;
            case "min":
                return Math.min(a, b);
            default:
                return Math.max(a, b);
        }
    }
}
