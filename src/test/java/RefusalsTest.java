import java.util.function.ToLongFunction;

/**
 * Terms 5: every refused call answers NONE or false, has the STATUS that is the first to hold, and changes
 * nothing but STATUS. Each is made on one of two objects that are alike, and these are alike behind it.
 */
public final class RefusalsTest {
    private static final int MAX = Integer.MAX_VALUE;
    private static final int MIN = Integer.MIN_VALUE;
    private static final long WIDE = 1L << 53;

    private static int calls;
    private static String alike;

    public static void main(String[] args) {
        alike = Snapshot.of(rich());
        trays();
        pours();
        texts();
        numbers();
        wholesale();
        dropsAndRules();
        runs();
        sums();
        halvings();
        alone();
        instructions();
        marks();
        faulty();
        nothingToRun();
        statusLess();
        Check.due("refused calls are many", calls > 250, true);
        Check.end();
    }

    /** TRAY 0 of 5 bytes, 1 of 5 shorts, 2 of 7 bytes, 3 MISSING; va, vc there; a run behind it, two MARKS. */
    private static VectorPipes rich() {
        VectorPipes x = new VectorPipes();
        x.tray(0, 0, 5);
        x.tray(1, 1, 5);
        x.tray(2, 0, 7);
        x.write(0, 0, 11);
        x.write(0, 4, -3);
        x.write(1, 4, 300);
        x.write(2, 6, 9);
        x.put(0, 0, 3, -1);
        x.put(0, 15, -5, 0);
        x.put(2, 1, 7, 2);
        x.give(3, 5, 1);
        x.poke(0, 1, -200);
        x.poke(63, -1, 200);
        x.strange(7, 5);
        x.strange(8, 2);
        x.rule(1, 5);
        x.rule(2, 11);
        x.rule(3, 0x8421);
        x.mark();
        x.mark();
        // 1: reads va, which is there; 2, 3 depend on it; none trap
        Check.due("program", Check.program(x, "setvl 3; copy vd va; load vd at 1 by 1; fold sa vd; strip 3; flip; end;"
            + " mul va va vd; stop; count sb;"), 9);
        Check.due("run()", x.run(), 8);
        Check.feed(x, "flip; stop; flip; ");
        // the NUMBER told latest
        Check.told(x, "word(63)", x.word(63), 0, -1, 200);
        return x;
    }

    private static void none(String call, int status, ToLongFunction<VectorPipes> made) {
        refuse(call, status, -1, made);
    }

    private static void no(String call, int status, ToLongFunction<VectorPipes> made) {
        refuse(call, status, 0, made);
    }

    private static void refuse(String call, int status, long answer, ToLongFunction<VectorPipes> made) {
        VectorPipes x = rich();
        Check.due(call, made.applyAsLong(x), answer);
        Check.due(call + " status()", x.status(), status);
        Check.due(call + " mantissa()", x.mantissa(), -1);
        Check.due(call + " exponent()", x.exponent(), 200);
        Check.due(call + " changes nothing", Snapshot.of(x).equals(alike), true);
        calls++;
    }

    private static long bit(boolean answer) {
        return answer ? 1 : 0;
    }

    private static void trays() {
        for (int t : new int[] {-1, 4, MIN, MAX}) {
            no("tray(" + t + ", 0, 5)", 1, x -> bit(x.tray(t, 0, 5)));
            no("tray(" + t + ", 9, -1)", 1, x -> bit(x.tray(t, 9, -1)));
            no("tray(0, " + t + ", 5)", 1, x -> bit(x.tray(0, t, 5)));
            no("tray(0, " + t + ", 61)", 1, x -> bit(x.tray(0, t, 61)));
            no("write(" + t + ", 9, 1)", 1, x -> bit(x.write(t, 9, 1)));
            none("read(" + t + ", 9)", 1, x -> x.read(t, 9));
        }
        no("tray(0, 0, 61)", 5, x -> bit(x.tray(0, 0, 61)));
        no("tray(3, 3, MAX)", 5, x -> bit(x.tray(3, 3, MAX)));
        no("tray(0, 0, -1)", 6, x -> bit(x.tray(0, 0, -1)));
        no("tray(3, 3, MIN)", 6, x -> bit(x.tray(3, 3, MIN)));
        for (int place : new int[] {-1, 5, 60, MIN, MAX}) {
            no("write(0, " + place + ", 1)", 4, x -> bit(x.write(0, place, 1)));
            none("read(0, " + place + ")", 4, x -> x.read(0, place));
            no("write(3, " + place + ", 1)", 3, x -> bit(x.write(3, place, 1)));
            none("read(3, " + place + ")", 3, x -> x.read(3, place));
        }
        no("write(3, 0, 1)", 3, x -> bit(x.write(3, 0, 1)));
        none("read(3, 0)", 3, x -> x.read(3, 0));
    }

    private static void pours() {
        for (int t : new int[] {-1, 4, MIN, MAX}) {
            no("pour from " + t, 1, x -> bit(x.pour(t, 0, 3, 0, -1)));
            no("pour to " + t, 1, x -> bit(x.pour(3, 0, t, 0, -1)));
        }
        no("pour from a MISSING one", 3, x -> bit(x.pour(3, 0, 1, 0, -1)));
        no("pour to a MISSING one", 3, x -> bit(x.pour(0, 0, 3, 0, -1)));
        no("pour of unlike sorts", 11, x -> bit(x.pour(0, 0, 1, 0, 1)));
        no("pour of unlike sorts, below 0", 11, x -> bit(x.pour(0, -1, 1, 9, -1)));
        no("pour below 0", 6, x -> bit(x.pour(0, 0, 2, 0, -1)));
        no("pour below 0 of no place", 6, x -> bit(x.pour(0, 9, 2, -1, MIN)));
        int[][] bad = {{-1, 0, 1}, {0, -1, 1}, {5, 0, 1}, {0, 7, 1}, {0, 0, 6}, {1, 0, 5}, {0, 3, 5}, {4, 0, 2}, {0, 6, 2},
            {MAX, 0, 1}, {0, MAX, 1}, {1, 1, MAX}, {MAX, MAX, MAX}, {MIN, 0, 1}, {0, MIN, 1}, {-1, 0, 0}, {0, -1, 0},
            {6, 0, 0}, {0, 8, 0}};
        for (int[] b : bad) {
            no("pour(0, " + b[0] + ", 2, " + b[1] + ", " + b[2] + ")", 4, x -> bit(x.pour(0, b[0], 2, b[1], b[2])));
        }
        no("pour within, too many", 4, x -> bit(x.pour(0, 0, 0, 1, 5)));
    }

    private static void texts() {
        // 20 bytes are on the tape
        for (int n : new int[] {-1, 21, 901, MIN, MAX}) {
            none("program(" + n + ")", 5, x -> x.program(n));
        }
        for (int what : new int[] {-1, 6, MIN, MAX}) {
            none("many(" + what + ")", 5, x -> x.many(what));
        }
    }

    private static void numbers() {
        for (int bad : new int[] {-1, MIN, MAX}) {
            none("element(" + bad + ", 0)", 2, x -> x.element(bad, 0));
            none("element(0, " + bad + ")", 2, x -> x.element(0, bad));
            none("element(1, " + bad + ")", 2, x -> x.element(1, bad));
            none("scalar(" + bad + ")", 2, x -> x.scalar(bad));
            none("word(" + bad + ")", 2, x -> x.word(bad));
            none("put(" + bad + ", 0, ..)", 2, x -> x.put(bad, 0, 1, 201));
            none("put(0, " + bad + ", ..)", 2, x -> x.put(0, bad, WIDE + 1, 0));
            none("give(" + bad + ", ..)", 2, x -> x.give(bad, 1, -201));
            none("poke(" + bad + ", ..)", 2, x -> x.poke(bad, -WIDE - 1, 0));
            none("strange(" + bad + ", 0)", 2, x -> x.strange(bad, 0));
            none("strange(0, " + bad + ")", 5, x -> x.strange(0, bad));
        }
        none("element(6, 0)", 2, x -> x.element(6, 0));
        none("element(0, 16)", 2, x -> x.element(0, 16));
        none("element(1, 16)", 2, x -> x.element(1, 16));
        for (int missing : new int[] {1, 4, 5}) {
            none("element(" + missing + ", 15)", 3, x -> x.element(missing, 15));
        }
        none("scalar(4)", 2, x -> x.scalar(4));
        none("word(64)", 2, x -> x.word(64));
        none("put(6, 0, 1, 0)", 2, x -> x.put(6, 0, 1, 0));
        none("put(1, 16, 1, 0)", 2, x -> x.put(1, 16, 1, 0));
        none("give(4, 1, 0)", 2, x -> x.give(4, 1, 0));
        none("poke(64, 1, 0)", 2, x -> x.poke(64, 1, 0));
        none("strange(64, 6)", 2, x -> x.strange(64, 6));
        none("strange(7, 0)", 5, x -> x.strange(7, 0));
        none("strange(7, 6)", 5, x -> x.strange(7, 6));
        long[] ms = {WIDE + 1, -WIDE - 1, Long.MAX_VALUE, Long.MIN_VALUE, 1, 1, 0, 0, WIDE, 1, 1};
        int[] es = {0, 0, 0, 0, 201, -201, 201, -201, 201, MAX, MIN};
        for (int k = 0; k < ms.length; k++) {
            long m = ms[k];
            int e = es[k];
            none("put(1, 0, " + m + ", " + e + ")", 5, x -> x.put(1, 0, m, e));
            none("put(0, 0, " + m + ", " + e + ")", 5, x -> x.put(0, 0, m, e));
            none("give(3, " + m + ", " + e + ")", 5, x -> x.give(3, m, e));
            none("poke(0, " + m + ", " + e + ")", 5, x -> x.poke(0, m, e));
        }
    }

    private static void wholesale() {
        // the first that holds of 1, 2, 3, 4, 5: a, tray, many, STATUS
        int[][] bad = {{99, -1, 61, 1}, {99, 4, -1, 1}, {0, MIN, 1, 1}, {0, MAX, 0, 1}, {-1, 3, 1, 2}, {64, 3, 1, 2},
            {60, 0, 5, 2}, {63, 0, 2, 2}, {0, 0, 65, 2}, {MAX, 0, 1, 2}, {MIN, 0, 1, 2}, {1, 0, MAX, 2}, {0, 3, 61, 3},
            {0, 3, 0, 3}, {99, 3, 0, 3}, {99, 3, -1, 3}, {0, 0, 6, 4}, {0, 0, 60, 4}, {3, 0, 61, 4}, {0, 0, 64, 4},
            {0, 0, -1, 5}, {99, 0, -1, 5}, {0, 0, MIN, 5}};
        for (int[] b : bad) {
            String args = "(" + b[0] + ", " + b[1] + ", " + b[2] + ")";
            none("pokeAll" + args, b[3], x -> x.pokeAll(b[0], b[1], b[2]));
            none("peekAll" + args, b[3], x -> x.peekAll(b[0], b[1], b[2]));
        }
    }

    private static void dropsAndRules() {
        for (int row : new int[] {-1, 6, MIN, MAX}) {
            no("drop(" + row + ")", 2, x -> bit(x.drop(row)));
        }
        for (int row : new int[] {1, 4, 5}) {
            no("drop(" + row + ")", 3, x -> bit(x.drop(row)));
        }
        int[][] bad = {{0, -1}, {0, 17}, {1, 0}, {1, 17}, {1, -1}, {2, 0}, {2, 13}, {2, -1}, {3, -1}, {3, 65536}, {4, 1},
            {-1, 1}, {MAX, 1}, {MIN, 1}, {0, MAX}, {0, MIN}, {1, MAX}, {1, MIN}, {2, MAX}, {2, MIN}, {3, MAX}, {3, MIN}};
        for (int[] b : bad) {
            no("rule(" + b[0] + ", " + b[1] + ")", 5, x -> bit(x.rule(b[0], b[1])));
        }
    }

    private static void runs() {
        for (int what : new int[] {-1, 6, MIN, MAX}) {
            none("ran(" + what + ")", 5, x -> x.ran(what));
        }
        none("ran(4) without a TRAP", 8, x -> x.ran(4));
        none("ran(5) without a TRAP", 8, x -> x.ran(5));
        for (int k : new int[] {-1, 9, 30, MIN, MAX}) {
            none("time(" + k + ", 0)", 2, x -> x.time(k, 0));
            none("time(" + k + ", 2)", 2, x -> x.time(k, 2));
        }
        for (int what : new int[] {-1, 2, MIN, MAX}) {
            none("time(0, " + what + ")", 5, x -> x.time(0, what));
            none("time(8, " + what + ") of what did not begin", 5, x -> x.time(8, what));
        }
        none("time(8, 0): behind a stop", 8, x -> x.time(8, 0));
        none("time(8, 1): behind a stop", 8, x -> x.time(8, 1));
        none("time(0, 1) of setvl", 8, x -> x.time(0, 1));
        none("time(4, 1) of strip", 8, x -> x.time(4, 1));
        none("time(5, 1) of flip", 8, x -> x.time(5, 1));
        none("time(7, 1) of stop", 8, x -> x.time(7, 1));
    }

    private static void sums() {
        for (int row : new int[] {-1, 6, MIN, MAX}) {
            none("sum(" + row + ", 0)", 2, x -> x.sum(row, 0));
            none("sum(" + row + ", 3)", 2, x -> x.sum(row, 3));
            none("sums(" + row + ")", 2, x -> x.sums(row));
        }
        for (int row : new int[] {1, 4, 5}) {
            none("sum(" + row + ", 0)", 3, x -> x.sum(row, 0));
            none("sum(" + row + ", 3)", 3, x -> x.sum(row, 3));
            none("sums(" + row + ")", 3, x -> x.sums(row));
        }
        for (int what : new int[] {-1, 3, MIN, MAX}) {
            none("sum(0, " + what + ")", 5, x -> x.sum(0, what));
        }
    }

    private static void halvings() {
        // n, i, STATUS
        int[][] bad = {{1, -1, 2}, {1, 1, 2}, {16, 16, 2}, {16, -1, 2}, {0, 0, 2}, {-1, -1, 2}, {-1, 0, 2}, {17, 17, 2},
            {17, -1, 2}, {MIN, MIN, 2}, {MAX, MAX, 2}, {17, 0, 5}, {17, 1, 5}, {17, 16, 5}, {MAX, 0, 5}, {MAX, MAX - 1, 5},
            {1, 0, 8}, {2, 0, 8}, {16, 0, 8}};
        for (int[] b : bad) {
            none("roundOf(" + b[0] + ", " + b[1] + ")", b[2], x -> x.roundOf(b[0], b[1]));
            none("partnerOf(" + b[0] + ", " + b[1] + ")", b[2], x -> x.partnerOf(b[0], b[1]));
        }
    }

    private static void alone() {
        // a, by, n, STATUS
        int[][] bad = {{-1, 0, 0, 2}, {64, 0, 0, 2}, {MIN, 65, 65, 2}, {MAX, -1, -1, 2}, {0, -1, 0, 5}, {0, 65, 0, 5},
            {0, 0, -1, 5}, {0, 0, 65, 5}, {63, MAX, 64, 5}, {63, MIN, 64, 5}, {63, 64, MAX, 5}, {63, 64, MIN, 5}};
        for (int[] b : bad) {
            String args = "(" + b[0] + ", " + b[1] + ", " + b[2] + ")";
            none("stalls" + args, b[3], x -> x.stalls(b[0], b[1], b[2]));
            none("banksFor" + args, b[3], x -> x.banksFor(b[0], b[1], b[2]));
        }
        none("banksFor(0, 0, 2)", 8, x -> x.banksFor(0, 0, 2));
        none("banksFor(63, 64, 64)", 8, x -> x.banksFor(63, 64, 64));
        int[][] worse = {{-1, 0, 2}, {64, 65, 2}, {MIN, -1, 2}, {MAX, 0, 2}, {0, -1, 5}, {0, 65, 5}, {63, MAX, 5}, {63, MIN, 5}};
        for (int[] b : worse) {
            none("worst(" + b[0] + ", " + b[1] + ")", b[2], x -> x.worst(b[0], b[1]));
        }
    }

    private static void instructions() {
        for (int k : new int[] {-1, 9, 30, MIN, MAX}) {
            none("depends(" + k + ", 1)", 2, x -> x.depends(k, 1));
            none("depends(1, " + k + ")", 2, x -> x.depends(1, k));
            none("depends(" + k + ", " + k + ")", 2, x -> x.depends(k, k));
            none("swapGain(" + k + ")", 2, x -> x.swapGain(k));
        }
        none("depends(0, 0)", 9, x -> x.depends(0, 0));
        none("depends(8, 8)", 9, x -> x.depends(8, 8));
        none("depends(8, 0)", 9, x -> x.depends(8, 0));
        none("depends(1, 0)", 9, x -> x.depends(1, 0));
        none("swapGain(8): none is behind it", 2, x -> x.swapGain(8));
        for (int k = 0; k < 8; k++) {
            int at = k;
            // each DEPENDS on that behind it; between 5 and 6 there is an end
            none("swapGain(" + k + ")", 9, x -> x.swapGain(at));
        }
        none("bestSwap()", 8, x -> x.bestSwap());
    }

    private static void marks() {
        VectorPipes x = rich();
        VectorPipes y = rich();
        Check.fine(x, "mark()", x.mark(), 3);
        Check.fine(y, "mark()", y.mark(), 3);
        Check.refused(x, "a fourth mark()", x.mark(), 7);
        Check.refused(x, "a fifth mark()", x.mark(), 7);
        Check.due("mantissa() behind mark()", x.mantissa(), -1);
        Check.due("mark() refused changes nothing", Snapshot.of(x).equals(Snapshot.of(y)), true);
        x = rich();
        y = rich();
        for (int left = 1; left >= 0; left--) {
            Check.fine(x, "back()", x.back(), left);
            Check.fine(y, "back()", y.back(), left);
        }
        Check.refused(x, "a third back()", x.back(), 8);
        Check.refused(x, "a fourth back()", x.back(), 8);
        Check.due("back() refused changes nothing", Snapshot.of(x).equals(Snapshot.of(y)), true);
    }

    /** program() with 10 changes the tape, and what fault() tells, and nothing else: times stay as well. */
    private static void faulty() {
        VectorPipes x = rich();
        Check.refused(x, "program(10)", x.program(10), 10);
        Check.due("fault(0)", x.fault(0), 2);
        Check.due("fault(1)", x.fault(1), 10);
        Check.due("mantissa()", x.mantissa(), -1);
        Check.due("exponent()", x.exponent(), 200);
        String[] mine = alike.split("\n");
        String[] its = Snapshot.of(x).split("\n");
        Check.due("as many lines", its.length, mine.length);
        // the first line is what fault() tells
        for (int k = 1; k < its.length && k < mine.length; k++) {
            boolean tape = its[k].startsWith("feed") || its[k].startsWith("program");
            Check.due("line " + k + ": " + its[k], its[k].equals(mine[k]), !tape);
        }
    }

    /** run() of no INSTRUCTION, of a new object and of an empty PROGRAM. */
    private static void nothingToRun() {
        VectorPipes x = new VectorPipes();
        Check.refused(x, "run()", x.run(), 8);
        Check.due("run() changes nothing", Snapshot.of(x).equals(Snapshot.of(new VectorPipes())), true);
        x = rich();
        VectorPipes y = rich();
        x.program(0);
        y.program(0);
        Check.refused(x, "run() of none", x.run(), 8);
        Check.due("run() of none changes nothing", Snapshot.of(x).equals(Snapshot.of(y)), true);
        x = new VectorPipes();
        y = new VectorPipes();
        Check.refused(x, "bestSwap() of none", x.bestSwap(), 8);
        Check.refused(x, "swapGain(0) of none", x.swapGain(0), 2);
        Check.refused(x, "depends(0, 1) of none", x.depends(0, 1), 2);
        Check.refused(x, "time(0, 0) of none", x.time(0, 0), 2);
        Check.refused(x, "ran(0) of none", x.ran(0), 8);
        Check.refused(x, "back() of none", x.back(), 8);
        Check.due("a new object stays new", Snapshot.of(x).equals(Snapshot.of(y)), true);
    }

    /** status(), fault(), feed(), mantissa(), exponent() have no STATUS. */
    private static void statusLess() {
        VectorPipes x = rich();
        x.drop(1);
        for (int turn = 0; turn < 2; turn++) {
            int due = turn == 0 ? 3 : 0;
            Check.due("status()", x.status(), due);
            Check.due("status() again", x.status(), due);
            x.fault(0);
            Check.due("status() behind fault(0)", x.status(), due);
            Check.due("fault(-1)", x.fault(-1), -1);
            Check.due("fault(2)", x.fault(2), -1);
            Check.due("status() behind fault(2)", x.status(), due);
            x.mantissa();
            Check.due("status() behind mantissa()", x.status(), due);
            x.exponent();
            Check.due("status() behind exponent()", x.status(), due);
            while (x.feed(0, 0, 0, 0, 0) >= 0) {
                Check.due("status() behind feed()", x.status(), due);
            }
            Check.due("status() behind a feed() of too much", x.status(), due);
            x.rule(0, 3);
        }
    }
}
