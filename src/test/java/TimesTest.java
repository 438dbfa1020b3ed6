import java.util.List;

/**
 * Terms 3, rule by rule, each time reckoned by hand. BUSY 12 and a load by 0 make an element that comes
 * late: of VL 2 its elements are TAKEN at 0 and 12, READY at 5 and 17.
 */
public final class TimesTest {
    private static final String LATE = "load ve at 0 by 0; ";
    private static final String[] TWO = {"add", "sub", "mul", "div", "rem", "min", "max"};
    private static final String[] ONE = {"copy", "single", "whole"};
    /** INSTRUCTIONS that write a ROW, %s, alone, by their LATENCY. */
    private static final List<String> BY_7 = List.of("div %s va vb", "rem %s va vb", "div %s va vb masked");
    private static final List<String> BY_5 = List.of("load %s at 1 by 1", "gather %s at 1 of vb");
    private static final List<String> BY_4 = List.of("mul %s va vb", "mul %s va vb masked");
    private static final List<String> BY_3 = List.of("iota %s", "fill %s sd", "add %s va vb", "sub %s va vb",
        "min %s va vb", "max %s va vb", "max %s va vb masked", "copy %s va", "single %s va", "whole %s va",
        "whole %s va masked");

    public static void main(String[] args) {
        alone();
        halvings();
        units();
        writtenBehindWritten();
        readBehindWritten();
        writtenBehindRead();
        latestRead();
        maskReady();
        maskRead();
        ended();
        packs();
        belowVl();
        none();
        banks();
        strips();
        told();
        Check.end();
    }

    private static VectorPipes with(int vl, int busy, String text) {
        VectorPipes x = new VectorPipes();
        for (int r = 0; r < 6; r++) {
            for (int i = 0; i < 16; i++) {
                x.put(r, i, i, 0);
            }
        }
        x.rule(0, vl);
        x.rule(2, busy);
        x.rule(3, 65535);
        Check.due("program of " + text, Check.program(x, text) > 0, true);
        return x;
    }

    /** Runs it, then asks CYCLES and the beginning and the last time of each INSTRUCTION, -1 for none. */
    private static VectorPipes timed(int vl, int busy, String text, int cycles, int... times) {
        VectorPipes x = with(vl, busy, text);
        Check.due("run() of " + text, x.run() > 0, true);
        Check.fine(x, "ran(0) of " + text, x.ran(0), cycles);
        for (int k = 0; k < times.length; k++) {
            String call = "time(" + k / 2 + ", " + k % 2 + ") of " + text;
            Check.due(call, x.time(k / 2, k % 2), times[k]);
            Check.due(call + " status()", x.status(), times[k] < 0 ? 8 : 0);
        }
        return x;
    }

    private static String to(String row, String instruction) {
        return instruction.replace("%s", row) + "; ";
    }

    /** One INSTRUCTION with one element, and with 16: from 0 on, READY by its UNIT's LATENCY. */
    private static void alone() {
        List<List<String>> all = List.of(BY_3, BY_4, BY_5, BY_7);
        int[] latency = {3, 4, 5, 7};
        for (int k = 0; k < 4; k++) {
            for (String one : all.get(k)) {
                timed(1, 4, to("ve", one), latency[k], 0, 0);
                timed(16, 4, to("ve", one), 15 + latency[k], 0, 15);
                timed(0, 4, to("ve", one), 0, 0, -1);
            }
        }
        for (String one : new String[] {"less va vb;", "same va vb;", "odd va;", "pack ve va;"}) {
            timed(1, 4, one, 3, 0, 0);
            timed(16, 4, one, 18, 0, 15);
            timed(0, 4, one, 0, 0, -1);
        }
        // nothing is READY by these
        for (String one : new String[] {"store va at 0 by 1;", "scatter va at 0 of vb;"}) {
            timed(1, 4, one, 0, 0, 0);
            timed(16, 4, one, 15, 0, 15);
            timed(0, 4, one, 0, 0, -1);
        }
        for (int vl = 0; vl <= 16; vl += 8) {
            timed(vl, 4, "setvl 3;", 0, 0, -1);
            timed(vl, 4, "stop;", 0, 0, -1);
            timed(vl, 4, "strip 0; end;", 0, 0, -1);
            timed(vl, 4, "strip 1; end;", 1, 0, -1);
            timed(vl, 4, "strip 16; end;", 1, 0, -1);
            timed(vl, 4, "strip 17; end;", 2, 0, -1);
            timed(vl, 4, "strip 200; end;", 13, 0, -1);
            timed(vl, 4, "flip;", 1, 0, -1);
            timed(vl, 4, "count sa;", 1, 0, 1);
            timed(vl, 4, "setvl 1; setvl 2; stop; flip;", 2, 0, -1, 1, -1, 2, -1, -1, -1);
        }
    }

    private static void halvings() {
        int[] ends = {0, 0, 3, 6, 6, 9, 9, 9, 9, 12, 12, 12, 12, 12, 12, 12, 12};
        for (int vl = 0; vl <= 16; vl++) {
            timed(vl, 4, "fold sa va; iota ve;", vl == 0 ? 1 : Math.max(ends[vl], 1) + vl - 1 + 3,
                0, ends[vl], Math.max(ends[vl], 1), vl == 0 ? -1 : Math.max(ends[vl], 1) + vl - 1);
            timed(vl, 4, "top sa va;", ends[vl], 0, ends[vl]);
        }
    }

    /** With VL 4 a UNIT is FREE at 4; another one waits for nothing but the BEGINNING ahead. */
    private static void units() {
        String[][] units = {{"load ve at 0 by 1;", "store va at 8 by 1;", "gather ve at 0 of vb;", "scatter va at 8 of vb;"},
            {"mul ve va vb;"}, {"div ve va vb;", "rem ve va vb;"},
            {"iota ve;", "fill ve sa;", "add ve va vb;", "sub ve va vb;", "min ve va vb;", "max ve va vb;", "copy ve va;",
                "single ve va;", "whole ve va;", "odd va;", "less va vb;", "same va vb;", "pack ve va;"}};
        for (int u = 0; u < 4; u++) {
            for (String first : units[u]) {
                for (int w = 0; w < 4; w++) {
                    for (String then : units[w]) {
                        unitPair(first, then.replace("ve", "vf"), u == w);
                    }
                }
            }
        }
    }

    private static boolean asksMask(String one) {
        return one.startsWith("odd") || one.startsWith("less") || one.startsWith("same") || one.startsWith("pack");
    }

    private static void unitPair(String first, String then, boolean same) {
        VectorPipes x = with(4, 1, first + then);
        Check.fine(x, "run()", x.run(), 2);
        boolean waits = asksMask(first) && !first.startsWith("pack") && asksMask(then);
        // behind less, same, odd the MASK is READY at 3 + 3
        Check.fine(x, "time(1, 0) of " + first + then, x.time(1, 0), waits ? 6 : same ? 4 : 1);
        x = with(4, 1, "setvl 0;" + first + "setvl 4;" + then);
        Check.fine(x, "run()", x.run(), 4);
        Check.fine(x, "time(3, 0) of VL 0: " + first + then, x.time(3, 0), 3);
    }

    /** D is READY at 7: TAKEN no earlier than 8 less LATENCY, masked or not. */
    private static void writtenBehindWritten() {
        for (String one : BY_7) {
            timed(1, 4, "div ve va vb; " + to("ve", one), 8, 0, 0, 1, 1);
        }
        for (String one : BY_5) {
            timed(1, 4, "div ve va vb; " + to("ve", one), 8, 0, 0, 1, 3);
        }
        for (String one : BY_4) {
            timed(1, 4, "div ve va vb; " + to("ve", one), 8, 0, 0, 1, 4);
        }
        for (String one : BY_3) {
            timed(1, 4, "div ve va vb; " + to("ve", one), 8, 0, 0, 1, 5);
            // element by element: 5 less 2, 17 less 2
            timed(2, 12, LATE + to("ve", one), 18, 0, 12, 1, 15);
        }
        timed(2, 12, LATE + "mul ve va vb;", 18, 0, 12, 1, 14);
        timed(2, 12, LATE + "div ve va vb;", 18, 0, 12, 1, 11);
        // pack writes no D[i] ahead of its BEGINNING
        timed(1, 4, "div ve va vb; pack ve va;", 10, 0, 0, 7, 7);
    }

    /** What is read is READY: div's D at 7, element by element. */
    private static void readBehindWritten() {
        for (String one : new String[] {"store ve at 0 by 1", "scatter ve at 0 of vb", "scatter vb at 0 of ve",
            "gather vb at 0 of ve"}) {
            VectorPipes x = with(1, 4, "div ve va va; " + one + ";");
            x.put(0, 0, 1, 0);
            Check.fine(x, "run()", x.run(), 2);
            Check.fine(x, "time(1, 0) of " + one, x.time(1, 0), 1);
            Check.fine(x, "time(1, 1) of " + one, x.time(1, 1), 7);
        }
        timed(1, 4, "copy ve va; gather vf at 0 of ve;", 8, 0, 0, 1, 3);
        for (String two : TWO) {
            boolean divides = two.equals("div") || two.equals("rem");
            int latency = divides ? 7 : two.equals("mul") ? 4 : 3;
            for (String masked : new String[] {"", " masked"}) {
                timed(1, 4, "div ve va vb; " + two + " vf ve va" + masked + ";", 7 + latency, 0, 0, 1, 7);
                timed(1, 4, "div ve va vb; " + two + " vf va ve" + masked + ";", 7 + latency, 0, 0, 1, 7);
                timed(2, 12, LATE + two + " vf va ve" + masked + ";", 17 + latency, 0, 12, 1, 17);
                timed(2, 12, LATE + two + " vf ve va" + masked + ";", 17 + latency, 0, 12, 1, 17);
            }
        }
        for (String one : ONE) {
            timed(1, 4, "div ve va vb; " + one + " vf ve;", 10, 0, 0, 1, 7);
            timed(2, 12, LATE + one + " vf ve masked;", 20, 0, 12, 1, 17);
        }
        for (String one : new String[] {"less ve va;", "less va ve;", "same ve va;", "same va ve;", "odd ve;", "pack vf ve;"}) {
            timed(2, 12, LATE + one, 20, 0, 12, 1, 17);
        }
        timed(1, 4, "div ve va vb; fold sa ve;", 7, 0, 0, 7, 7);
        timed(2, 12, LATE + "top sa ve;", 20, 0, 12, 17, 20);
        for (String one : BY_3) {
            timed(1, 4, to("ve", one) + "store ve at 8 by 0;", 3, 0, 0, 1, 3);
        }
        for (String one : BY_4) {
            timed(1, 4, to("ve", one) + "store ve at 8 by 0;", 4, 0, 0, 1, 4);
        }
        timed(1, 1, "load ve at 0 by 0; store ve at 8 by 0;", 5, 0, 0, 1, 5);
        timed(1, 1, "gather ve at 0 of va; store ve at 8 by 0;", 5, 0, 0, 1, 5);
    }

    /** What was READ at 17, at 15, at 12 is written 1 behind that less LATENCY. */
    private static void writtenBehindRead() {
        for (String two : TWO) {
            boolean adder = !two.equals("div") && !two.equals("rem") && !two.equals("mul");
            int latency = two.equals("mul") ? 4 : adder ? 3 : 7;
            String writer = adder ? "mul vc va vb;" : "iota vc;";
            int taken = adder ? 14 : 15;
            timed(2, 12, LATE + two + " vf vc ve; " + writer, 17 + latency, 0, 12, 1, 17, 2, taken);
            timed(2, 12, LATE + two + " vf ve vc; " + writer, 17 + latency, 0, 12, 1, 17, 2, taken);
            timed(2, 12, LATE + two + " vf ve vc masked; " + writer, 17 + latency, 0, 12, 1, 17, 2, taken);
        }
        // copy's D waits: TAKEN at 3 and 15, and so vc was READ
        for (String one : ONE) {
            timed(2, 12, LATE + one + " ve vc; mul vc va vb;", 18, 0, 12, 1, 15, 2, 12);
            timed(2, 12, LATE + one + " ve vc; div vc va vb;", 18, 0, 12, 1, 15, 2, 9);
        }
        for (String one : new String[] {"less vc ve;", "less ve vc;", "same vc ve;", "same ve vc;"}) {
            timed(2, 12, LATE + one + " mul vc va vb;", 20, 0, 12, 1, 17, 2, 14);
        }
        timed(2, 12, "store vc at 0 by 0; mul vc va vb;", 13, 0, 12, 1, 9);
        timed(2, 12, "store vc at 0 by 0; iota vc;", 13, 0, 12, 1, 10);
        timed(2, 12, "store vc at 0 by 0; div vc va vb;", 13, 0, 12, 1, 6);
        VectorPipes x = with(2, 12, "scatter vc at 0 of vd; mul vc va vb; gather ve at 0 of vd; iota vd;");
        x.put(3, 1, 0, 0);
        Check.fine(x, "run()", x.run(), 4);
        Check.fine(x, "time(1, 1): D of scatter was READ at 12", x.time(1, 1), 9);
        // gather: FREE at 13, BUSY to 24, then to 36
        Check.fine(x, "time(2, 0)", x.time(2, 0), 13);
        Check.fine(x, "time(2, 1)", x.time(2, 1), 36);
        Check.fine(x, "time(3, 1): B of gather was READ at 36", x.time(3, 1), 34);
        Check.fine(x, "ran(0)", x.ran(0), 41);
        x = with(2, 12, "scatter vc at 0 of vd; mul vd va vb;");
        x.put(3, 1, 0, 0);
        Check.fine(x, "run()", x.run(), 2);
        Check.fine(x, "time(1, 1): B of scatter was READ at 12", x.time(1, 1), 9);
        // in place: what an INSTRUCTION reads itself is READ when it is TAKEN
        timed(4, 4, "add va va va; add va va va;", 10, 0, 3, 4, 7);
    }

    /** The latest of all times counts, though another one that reads it begins behind it. */
    private static void latestRead() {
        timed(2, 12, LATE + "add vf ve vc; rem vd vc vc; mul vc va vb;", 20, 0, 12, 1, 17, 2, 3, 3, 14);
        timed(2, 12, LATE + "mul vf ve va masked; copy vd va masked; flip;", 21, 0, 12, 1, 17, 2, 3, 17, -1);
        timed(2, 12, LATE + "mul vf ve va masked; count sa; flip;", 21, 0, 12, 1, 17, 2, 3, 17, -1);
    }

    private static void maskReady() {
        String[] writers = {"less va vb; ", "same va vb; ", "odd va; "};
        String[] readers = {"add ve va vb masked;", "mul ve va vb masked;", "div ve va vb masked;", "copy ve va masked;",
            "less vc vd;", "same vc vd;", "odd vc;", "pack ve va;"};
        for (String writer : writers) {
            for (String reader : readers) {
                VectorPipes x = with(4, 4, writer + reader);
                Check.fine(x, "run()", x.run(), 2);
                Check.fine(x, "time(0, 1) of " + writer, x.time(0, 1), 3);
                Check.fine(x, "time(1, 0) of " + writer + reader, x.time(1, 0), 6);
                Check.fine(x, "time(1, 1) of " + writer + reader, x.time(1, 1), 9);
            }
            timed(4, 4, writer + "flip;", 7, 0, 3, 6, -1);
            timed(4, 4, writer + "count sa;", 7, 0, 3, 6, 7);
            // what asks no MASK waits not
            timed(4, 4, writer + "mul ve va vb; fold sa vc;", 8, 0, 3, 1, 4, 2, 8);
        }
        timed(4, 4, "flip; less va vb; flip;", 8, 0, -1, 1, 4, 7, -1);
    }

    /** mul masked and pack read the MASK until 3: less, same, odd, flip wait for that, others do not. */
    private static void maskRead() {
        for (String writer : new String[] {"less vc vd;", "same vc vd;", "odd vc;"}) {
            timed(4, 4, "mul ve va vb masked; " + writer, 9, 0, 3, 3, 6);
        }
        timed(4, 4, "mul ve va vb masked; flip;", 7, 0, 3, 3, -1);
        timed(4, 4, "mul ve va vb masked; count sa;", 7, 0, 3, 1, 2);
        timed(4, 4, "mul ve va vb masked; copy vf va masked;", 7, 0, 3, 1, 4);
        timed(4, 4, "mul ve va vb masked; pack vf va;", 7, 0, 3, 1, 4);
        timed(4, 4, "pack vf va; flip;", 6, 0, 3, 3, -1);
        timed(4, 4, "pack vf va; mul ve va vb masked;", 8, 0, 3, 1, 4);
        timed(4, 4, "mul ve va vb; less vc vd;", 7, 0, 3, 1, 4);
        timed(2, 12, LATE + "pack vf ve; flip;", 20, 0, 12, 1, 17, 17, -1);
    }

    /** Nothing BEGINS ahead of the end of the latest count, fold, top: 6 with VL 4, 1 behind count. */
    private static void ended() {
        String[] behind = {"setvl 1;", "strip 1; end;", "stop;", "flip;", "count sb;", "fold sb vb;", "top sb vb;", "iota ve;",
            "load ve at 0 by 1;", "mul ve va vb;", "less va vb;", "pack ve va;"};
        for (String one : behind) {
            for (String fold : new String[] {"fold sa va; ", "top sa va; "}) {
                VectorPipes x = with(4, 4, fold + one);
                Check.due("run()", x.run() >= 2, true);
                Check.fine(x, "time(0, 1) of " + fold, x.time(0, 1), 6);
                Check.fine(x, "time(1, 0) of " + fold + one, x.time(1, 0), 6);
            }
            VectorPipes x = with(4, 4, "count sa; " + one);
            x.run();
            Check.fine(x, "time(1, 0) of count; " + one, x.time(1, 0), 1);
        }
        // an end waits as well
        timed(4, 4, "strip 3; fold sa va; end; stop;", 8, 0, -1, 1, 7, 8, -1);
        timed(4, 4, "fold sa va; fold sb va; count sc; top sd va;", 19, 0, 6, 6, 12, 12, 13, 13, 19);
    }

    private static void packs() {
        // D was READ at 17, though it was READY all the time
        timed(2, 12, LATE + "mul vf vc ve; pack vc va;", 21, 0, 12, 1, 17, 17, 18);
        // D READY at 17
        timed(2, 12, LATE + "pack ve va;", 21, 0, 12, 17, 18);
        // all that were written are READY 3 behind the last that was TAKEN, the others as ahead
        VectorPipes x = with(4, 4, "pack ve va; store ve at 0 by 1; mul vf ve ve;");
        x.rule(3, 0b1001);
        x.run();
        Check.fine(x, "time(1, 1)", x.time(1, 1), 9);
        Check.fine(x, "ran(0)", x.ran(0), 13);
        x.rule(3, 0);
        x.run();
        Check.fine(x, "time(1, 1): none was written", x.time(1, 1), 4);
        Check.fine(x, "time(2, 1)", x.time(2, 1), 5);
        Check.fine(x, "ran(0)", x.ran(0), 9);
        x = with(4, 4, "pack ve va;");
        x.rule(3, 0);
        x.run();
        Check.fine(x, "ran(0) of a pack of none", x.ran(0), 3);
    }

    /** pack, fold, top ask elements below VL alone: div's are READY at 7, 8. */
    private static void belowVl() {
        timed(2, 4, "div ve va vb; setvl 1; pack ve va;", 10, 0, 1, 1, -1, 7, 7);
        timed(2, 4, "div ve va vb; setvl 1; fold sa ve;", 8, 0, 1, 1, -1, 7, 7);
        timed(2, 4, "div ve va vb; setvl 1; top sa ve;", 8, 0, 1, 1, -1, 7, 7);
        timed(2, 4, "div ve va vb; setvl 0; pack ve va; fold sa ve;", 8, 0, 1, 1, -1, 2, -1, 3, 3);
        timed(1, 4, "div ve va vb; setvl 2; fold sa ve;", 10, 0, 0, 1, -1, 7, 10);
        timed(2, 12, LATE + "mul vf vc ve; setvl 1; pack vc va;", 21, 0, 12, 1, 17, 2, -1, 5, 5);
    }

    /** With VL 0 the UNIT's and the MASK's times stay as they were. */
    private static void none() {
        timed(4, 4, "mul ve va vb masked; setvl 0; less va vb; odd va; pack vf va; copy vf va masked; setvl 4; flip;", 9,
            0, 3, 1, -1, 3, -1, 4, -1, 5, -1, 6, -1, 7, -1, 8, -1);
        timed(4, 4, "less va vb; setvl 0; copy ve va masked; flip; count sa;", 9, 0, 3, 1, -1, 6, -1, 7, -1, 8, 9);
        timed(4, 4, "div ve va vb; setvl 0; rem vf va vb; setvl 1; rem vf va vb;", 13, 0, 3, 1, -1, 4, -1, 5, -1, 6, 6);
    }

    private static void banks() {
        // one BANK, BUSY 12
        VectorPipes x = with(3, 12, "load ve at 0 by 1;");
        x.rule(1, 1);
        x.run();
        Check.fine(x, "time(0, 1) of one BANK", x.time(0, 1), 24);
        Check.fine(x, "ran(0) of one BANK", x.ran(0), 29);
        Check.fine(x, "ran(1) of one BANK", x.ran(1), 22);
        // BUSY 1 never waits
        x = with(16, 1, "load ve at 5 by 0;");
        x.rule(1, 1);
        x.run();
        Check.fine(x, "ran(1) of BUSY 1", x.ran(1), 0);
        Check.fine(x, "time(0, 1) of BUSY 1", x.time(0, 1), 15);
        // 16 BANKS: WORDS 0 and 16 in the same, 0 and 15 not
        bankPair(16, 16, 4, 3);
        bankPair(16, 15, 1, 0);
        bankPair(8, 8, 4, 3);
        bankPair(8, 7, 1, 0);
        bankPair(8, 63, 1, 0);
        bankPair(7, 63, 4, 3);
        bankPair(3, 63, 4, 3);
        bankPair(1, 1, 4, 3);
        bankPair(2, 1, 1, 0);
        // it is the last element TAKEN that counts: 0, 4, 8 in the same BANK
        x = timed(1, 4, "store va at 0 by 1; store va at 8 by 1; store va at 16 by 1;", 8, 0, 0, 1, 4, 5, 8);
        Check.fine(x, "ran(1)", x.ran(1), 3 + 3);
        // waiting for a ROW is no STALL, and what is left of BUSY then is
        x = timed(1, 12, "load va at 0 by 0; div ve vb vc; store ve at 8 by 0;", 12, 0, 0, 1, 1, 2, 12);
        Check.fine(x, "ran(1): from 8 to 12", x.ran(1), 4);
        x = timed(1, 8, "load va at 0 by 0; div ve vb vc; store ve at 8 by 0;", 8, 0, 0, 1, 1, 2, 8);
        Check.fine(x, "ran(1): none", x.ran(1), 0);
        // all BANKS are free when a run begins
        x.run();
        Check.fine(x, "ran(0) of the run again", x.ran(0), 8);
        x = timed(4, 4, "load ve at 0 by 8;", 17, 0, 12);
        x.run();
        Check.fine(x, "ran(1) of the run again", x.ran(1), 9);
        Check.fine(x, "time(0, 1) of the run again", x.time(0, 1), 12);
        x.stalls(0, 0, 64);
        x.worst(0, 64);
        x.swapGain(0);
        Check.fine(x, "ran(1) behind what is seen without a run", x.ran(1), 9);
        x.run();
        Check.fine(x, "ran(1) of the third run", x.ran(1), 9);
    }

    private static void bankPair(int banks, int place, int taken, int stalls) {
        VectorPipes x = with(1, 4, "load ve at 0 by 0; store va at " + place + " by 0;");
        x.rule(1, banks);
        x.run();
        Check.fine(x, "time(1, 1) of " + banks + " BANKS, WORD " + place, x.time(1, 1), taken);
        Check.fine(x, "ran(1) of " + banks + " BANKS, WORD " + place, x.ran(1), stalls);
    }

    private static void strips() {
        // strip 0; iota 1 to 16, end 2; iota 17 to 32, end 18; iota 33, READY 36, end 34; stop 35
        timed(3, 4, "strip 33; iota ve; end; stop;", 36, 0, -1, 33, 33, 35, -1);
        timed(3, 4, "strip 0; iota ve; end; stop;", 1, 0, -1, -1, -1, 1, -1);
        timed(3, 4, "setvl 1; strip 1; flip; end; setvl 2; strip 17; end; stop;", 8,
            0, -1, 1, -1, 2, -1, 4, -1, 5, -1, 8, -1);
        // VL behind the strip is 3 again
        timed(3, 4, "strip 20; end; iota ve;", 8, 0, -1, 3, 5);
        timed(3, 4, "strip 20; iota ve; end; iota vf;", 26, 0, -1, 17, 20, 21, 23);
    }

    /** time(): the last time that it BEGAN, and the last element of that time alone. */
    private static void told() {
        VectorPipes x = with(4, 4, "strip 17; less va vb; count sa; flip; end; stop; iota ve;");
        Check.fine(x, "run()", x.run(), 8);
        // strip 0; less 1 to 16, MASK READY 19; count 19 to 20; flip 20, MASK READY 21; end 21;
        // less 22, READY 25; count 25 to 26; flip 26; end 27; stop 28
        int[] due = {0, -1, 22, 22, 25, 26, 26, -1, 28, -1, -1, -1};
        for (int k = 0; k < due.length; k++) {
            Check.due("time(" + k / 2 + ", " + k % 2 + ")", x.time(k / 2, k % 2), due[k]);
            Check.due("status()", x.status(), due[k] < 0 ? 8 : 0);
        }
        Check.fine(x, "ran(0)", x.ran(0), 28);
        Check.refused(x, "time(6, 0)", x.time(6, 0), 2);
        // another run tells its own times alone
        x.rule(0, 0);
        Check.program(x, "fold sa va; iota ve; stop; iota vf;");
        x.run();
        Check.refused(x, "time(1, 1) of VL 0", x.time(1, 1), 8);
        x.rule(0, 1);
        x.run();
        Check.fine(x, "time(1, 1) of VL 1", x.time(1, 1), 1);
        x.rule(0, 0);
        x.run();
        Check.refused(x, "time(1, 1) of VL 0 again", x.time(1, 1), 8);
        Check.refused(x, "time(3, 0) behind stop", x.time(3, 0), 8);
    }
}
