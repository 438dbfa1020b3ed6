/** Promises 37 and 38: MARKS and what is taken back. */
public final class MarksTest {
    public static void main(String[] args) {
        counts();
        takenBack();
        latestFirst();
        Check.end();
    }

    private static void counts() {
        VectorPipes x = new VectorPipes();
        Check.refused(x, "back()", x.back(), 8);
        for (int k = 1; k <= 3; k++) {
            Check.fine(x, "mark()", x.mark(), k);
        }
        Check.refused(x, "mark()", x.mark(), 7);
        for (int k = 2; k >= 0; k--) {
            Check.fine(x, "back()", x.back(), k);
        }
        Check.refused(x, "back()", x.back(), 8);
        Check.fine(x, "mark()", x.mark(), 1);
    }

    private static void state(VectorPipes x, int n) {
        for (int r = 0; r < 6; r++) {
            x.put(r, n, n + r, 0);
        }
        x.drop(n % 6);
        x.give(n % 4, n, 0);
        x.poke(n, n, 1);
        x.strange(n + 20, 5);
        x.rule(0, n);
        x.rule(1, n + 1);
        x.rule(2, n + 2);
        x.rule(3, n + 3);
        Check.program(x, n % 2 == 0 ? "flip; count sa;" : "flip; stop; flip;");
    }

    private static void same(String call, VectorPipes x, VectorPipes y) {
        for (int what = 0; what < 6; what++) {
            Check.fine(x, call + " many(" + what + ")", x.many(what), y.many(what));
        }
        for (int r = 0; r < 6; r++) {
            for (int i = 0; i < 16; i++) {
                Check.told(x, call + " element", x.element(r, i), y.element(r, i), y.mantissa(), y.exponent());
            }
        }
        for (int s = 0; s < 4; s++) {
            Check.told(x, call + " scalar", x.scalar(s), y.scalar(s), y.mantissa(), y.exponent());
        }
        for (int a = 0; a < 64; a++) {
            Check.told(x, call + " word", x.word(a), y.word(a), y.mantissa(), y.exponent());
        }
    }

    private static void takenBack() {
        VectorPipes x = new VectorPipes();
        VectorPipes y = new VectorPipes();
        state(x, 2);
        state(y, 2);
        x.mark();
        state(x, 5);
        x.tray(0, 0, 3);
        x.write(0, 1, 9);
        Check.program(x, "flop;");
        Check.feed(x, "flip; flip; flip;");
        Check.due("run()", x.run(), 2);
        Check.fine(x, "time(0, 0)", x.time(0, 0), 0);
        Check.fine(x, "back()", x.back(), 0);
        same("back", x, y);
        Check.refused(x, "time(0, 0) behind back", x.time(0, 0), 8);
        Check.fine(x, "ran(2) stays", x.ran(2), 2);
        Check.fine(x, "read(0, 1) stays", x.read(0, 1), 9);
        Check.due("fault(0) stays", x.fault(0), 2);
        Check.fine(x, "program(17): the tape stays", x.program(17), 3);
    }

    private static void latestFirst() {
        VectorPipes[] y = new VectorPipes[4];
        VectorPipes x = new VectorPipes();
        for (int n = 0; n < 4; n++) {
            y[n] = new VectorPipes();
            for (int k = 0; k <= n; k++) {
                state(y[n], k);
            }
            state(x, n);
            if (n < 3) {
                x.mark();
            }
        }
        same("none taken back", x, y[3]);
        for (int n = 2; n >= 0; n--) {
            Check.fine(x, "back()", x.back(), n);
            same("back to " + n, x, y[n]);
        }
        x.run();
        x.mark();
        Check.fine(x, "time(0, 0) behind mark", x.time(0, 0), 0);
    }
}
