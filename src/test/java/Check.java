import java.nio.charset.StandardCharsets;

/** Counts the answers that are not the ones due, and feeds texts. */
final class Check {
    private static int wrong = 0;

    private Check() {
    }

    static void due(String call, long got, long want) {
        if (got != want) {
            wrong++;
            if (wrong <= 50) {
                System.out.println(call + " answered " + got + ", due is " + want);
            }
        }
    }

    static void due(String call, boolean got, boolean want) {
        due(call, got ? 1 : 0, want ? 1 : 0);
    }

    /** The answer of a call that is refused, and its STATUS. */
    static void refused(VectorPipes x, String call, long got, int status) {
        due(call, got, VectorPipes.NONE);
        due(call + " status()", x.status(), status);
    }

    static void denied(VectorPipes x, String call, boolean got, int status) {
        due(call, got, false);
        due(call + " status()", x.status(), status);
    }

    static void fine(VectorPipes x, String call, long got, long want) {
        due(call, got, want);
        due(call + " status()", x.status(), 0);
    }

    static void fine(VectorPipes x, String call, boolean got) {
        due(call, got, true);
        due(call + " status()", x.status(), 0);
    }

    /** The NUMBER told latest. */
    static void told(VectorPipes x, String call, int kind, int wantKind, long mantissa, int exponent) {
        due(call, kind, wantKind);
        due(call + " mantissa()", x.mantissa(), mantissa);
        due(call + " exponent()", x.exponent(), exponent);
    }

    static void whole(VectorPipes x, String call, int kind, long value) {
        long m = value;
        int e = 0;
        while (m != 0 && m % 2 == 0) {
            m /= 2;
            e++;
        }
        told(x, call, kind, value == 0 ? 1 : 0, m, e);
    }

    static void feed(VectorPipes x, String text) {
        byte[] bytes = text.getBytes(StandardCharsets.ISO_8859_1);
        for (int k = 0; k < bytes.length; k += 20) {
            int[] ints = new int[5];
            for (int j = 0; j < 20; j++) {
                int b = k + j < bytes.length ? bytes[k + j] & 255 : 32;
                ints[j / 4] = ints[j / 4] << 8 | b;
            }
            x.feed(ints[0], ints[1], ints[2], ints[3], ints[4]);
        }
    }

    static int program(VectorPipes x, String text) {
        feed(x, text);
        return x.program(text.length());
    }

    static void fault(String text, int kind, int place) {
        VectorPipes x = new VectorPipes();
        refused(x, "program of \"" + text + "\"", program(x, text), 10);
        due("fault(0) of \"" + text + "\"", x.fault(0), kind);
        due("fault(1) of \"" + text + "\"", x.fault(1), place);
    }

    static void taken(String text, int instructions) {
        VectorPipes x = new VectorPipes();
        fine(x, "program of \"" + text + "\"", program(x, text), instructions);
        due("fault(0) of \"" + text + "\"", x.fault(0), 0);
        due("fault(1) of \"" + text + "\"", x.fault(1), -1);
    }

    static void end() {
        System.out.println(wrong == 0 ? "all answers are as due" : wrong + " answers are not as due");
        System.exit(wrong == 0 ? 0 : 1);
    }
}
