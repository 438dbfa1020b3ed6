import java.util.ArrayList;
import java.util.Arrays;
import java.util.HashMap;
import java.util.List;
import java.util.Map;

/** A second machine, written from the document alone, with Java's own doubles, texts and maps. */
final class Oracle {
    private static final List<String> TWO = List.of("add", "sub", "mul", "div", "rem", "min", "max");
    private static final List<String> ONE = List.of("copy", "single", "whole");
    private static final List<String> COMPARE = List.of("less", "same", "odd");

    double[][] rows = new double[6][];
    double[] scalars = new double[4];
    double[] memory = new double[64];
    boolean[] mask = new boolean[16];
    int vl = 16;
    int banks = 8;
    int busy = 4;
    /** INSTRUCTIONS and ends in their order, each as its words. */
    List<String[]> text = new ArrayList<>();

    int cycles;
    int stalls;
    int done;
    int trap;
    int trapAt;
    int trapElement;
    int[] began;
    int[] ended;

    private Map<String, Integer> ready;
    private Map<String, Integer> read;
    private Map<String, Integer> free;
    private Map<Integer, Integer> bankTaken;
    private int lastBegin;
    private int lastEnd;
    private int base;

    Oracle copy() {
        Oracle o = new Oracle();
        for (int r = 0; r < 6; r++) {
            o.rows[r] = rows[r] == null ? null : rows[r].clone();
        }
        o.scalars = scalars.clone();
        o.memory = memory.clone();
        o.mask = mask.clone();
        o.vl = vl;
        o.banks = banks;
        o.busy = busy;
        o.text = new ArrayList<>(text);
        return o;
    }

    int instructions() {
        int n = 0;
        for (String[] words : text) {
            n += words[0].equals("end") ? 0 : 1;
        }
        return n;
    }

    /** Where INSTRUCTION k stands among INSTRUCTIONS and ends. */
    private int spot(int k) {
        int n = -1;
        for (int p = 0; p < text.size(); p++) {
            n += text.get(p)[0].equals("end") ? 0 : 1;
            if (n == k && !text.get(p)[0].equals("end")) {
                return p;
            }
        }
        return -1;
    }

    private int number(int p) {
        int n = -1;
        for (int q = 0; q <= p; q++) {
            n += text.get(q)[0].equals("end") ? 0 : 1;
        }
        return n;
    }

    void run() {
        ready = new HashMap<>();
        read = new HashMap<>();
        free = new HashMap<>();
        bankTaken = new HashMap<>();
        cycles = 0;
        stalls = 0;
        done = 0;
        trap = 0;
        trapAt = -1;
        trapElement = -1;
        began = new int[40];
        ended = new int[40];
        Arrays.fill(began, -1);
        Arrays.fill(ended, -1);
        lastBegin = -1;
        lastEnd = 0;
        base = 0;
        int p = 0;
        while (p < text.size()) {
            String[] words = text.get(p);
            if (!words[0].equals("strip")) {
                if (!instruction(p, words)) {
                    return;
                }
                p++;
                continue;
            }
            int close = p;
            while (!text.get(close)[0].equals("end")) {
                close++;
            }
            began[number(p)] = beginAt(0);
            done++;
            int n = Integer.parseInt(words[1]);
            int vlThen = vl;
            for (int round = 0; round < (n + 15) / 16; round++) {
                base = 16 * round;
                vl = Math.min(16, n - base);
                for (int q = p + 1; q < close; q++) {
                    if (!instruction(q, text.get(q))) {
                        return;
                    }
                }
                beginAt(0);
            }
            vl = vlThen;
            base = 0;
            p = close + 1;
        }
    }

    private int beginAt(int least) {
        lastBegin = Math.max(least, Math.max(lastBegin + 1, lastEnd));
        cycles = Math.max(cycles, lastBegin);
        return lastBegin;
    }

    private static int letter(String name) {
        return name.charAt(1) - 'a';
    }

    private static int latency(String unit) {
        switch (unit) {
            case "memory":
                return 5;
            case "multiplier":
                return 4;
            case "divider":
                return 7;
            default:
                return 3;
        }
    }

    private static String unitOf(String op) {
        switch (op) {
            case "load":
            case "store":
            case "gather":
            case "scatter":
                return "memory";
            case "mul":
                return "multiplier";
            case "div":
            case "rem":
                return "divider";
            default:
                return "adder";
        }
    }

    private int readyOf(String what) {
        return ready.getOrDefault(what, 0);
    }

    private int readOf(String what) {
        return read.getOrDefault(what, -1000);
    }

    private void setReady(String what, int when) {
        ready.put(what, when);
        cycles = Math.max(cycles, when);
    }

    private void setRead(String what, int when) {
        read.merge(what, when, Math::max);
    }

    private boolean trapped(int kind, int p, int i) {
        trap = kind;
        trapAt = number(p);
        trapElement = i;
        return false;
    }

    private boolean instruction(int p, String[] words) {
        String op = words[0];
        int k = number(p);
        if (List.of("setvl", "stop").contains(op)) {
            began[k] = beginAt(0);
            ended[k] = -1;
            done++;
            vl = op.equals("setvl") ? Integer.parseInt(words[1]) : vl;
            return op.equals("setvl");
        }
        if (op.equals("flip")) {
            began[k] = beginAt(Math.max(readyOf("mask"), readOf("mask")));
            ended[k] = -1;
            for (int i = 0; i < vl; i++) {
                mask[i] = !mask[i];
            }
            setRead("mask", lastBegin);
            setReady("mask", lastBegin + 1);
            done++;
            return true;
        }
        if (op.equals("count")) {
            began[k] = beginAt(readyOf("mask"));
            int many = 0;
            for (int i = 0; i < vl; i++) {
                many += mask[i] ? 1 : 0;
            }
            scalars[letter(words[1])] = many;
            setRead("mask", lastBegin);
            ended[k] = lastBegin + 1;
            lastEnd = lastBegin + 1;
            cycles = Math.max(cycles, lastEnd);
            done++;
            return true;
        }
        if (op.equals("fold") || op.equals("top")) {
            return halving(p, k, words);
        }
        return elements(p, k, words);
    }

    private boolean halving(int p, int k, String[] words) {
        int least = 0;
        for (int i = 0; i < vl; i++) {
            least = Math.max(least, readyOf(words[2] + i));
        }
        began[k] = beginAt(least);
        ended[k] = -1;
        double[] row = rows[letter(words[2])];
        if (vl > 0 && row == null) {
            return trapped(2, p, 0);
        }
        int halvings = 0;
        double[] x = row == null ? new double[16] : row.clone();
        for (int n = vl; n > 1;) {
            int h = n - n / 2;
            for (int i = 0; i + h < n; i++) {
                x[i] = words[0].equals("fold") ? x[i] + x[i + h] : Math.max(x[i], x[i + h]);
            }
            n = h;
            halvings++;
        }
        double none = words[0].equals("fold") ? 0.0 : Double.NEGATIVE_INFINITY;
        scalars[letter(words[1])] = vl == 0 ? none : x[0];
        for (int i = 0; i < vl; i++) {
            setRead(words[2] + i, lastBegin);
        }
        lastEnd = lastBegin + 3 * halvings;
        ended[k] = lastEnd;
        cycles = Math.max(cycles, lastEnd);
        done++;
        return true;
    }

    /** The ROWS that are read element by element. */
    private static List<String> sources(String[] words) {
        String op = words[0];
        if (TWO.contains(op)) {
            return List.of(words[2], words[3]);
        }
        if (ONE.contains(op) || op.equals("pack")) {
            return List.of(words[2]);
        }
        switch (op) {
            case "less":
            case "same":
                return List.of(words[1], words[2]);
            case "odd":
            case "store":
                return List.of(words[1]);
            case "gather":
                return List.of(words[5]);
            case "scatter":
                return List.of(words[1], words[5]);
            default:
                return List.of();
        }
    }

    private static boolean writesRow(String op) {
        return !COMPARE.contains(op) && !op.equals("store") && !op.equals("scatter") && !op.equals("pack");
    }

    private boolean elements(int p, int k, String[] words) {
        String op = words[0];
        String d = words[1];
        String unit = unitOf(op);
        boolean masked = words[words.length - 1].equals("masked");
        boolean compare = COMPARE.contains(op);
        boolean pack = op.equals("pack");
        int least = free.getOrDefault(unit, 0);
        least = masked || compare || pack ? Math.max(least, readyOf("mask")) : least;
        least = compare ? Math.max(least, readOf("mask")) : least;
        for (int i = 0; pack && i < vl; i++) {
            least = Math.max(least, Math.max(readyOf(d + i), readOf(d + i)));
        }
        began[k] = beginAt(least);
        ended[k] = -1;
        int taken = -1;
        int packed = 0;
        for (int i = 0; i < vl; i++) {
            for (String source : sources(words)) {
                if (rows[letter(source)] == null) {
                    return trapped(2, p, i);
                }
            }
            int place = -1;
            if (unit.equals("memory")) {
                double offset = op.equals("gather") || op.equals("scatter")
                    ? rows[letter(words[5])][i] : Integer.parseInt(words[5]) * (base + i);
                if (op.equals("gather") || op.equals("scatter")) {
                    if (!(Math.abs(offset) <= 1e6) || Math.rint(offset) != offset) {
                        return trapped(3, p, i);
                    }
                }
                place = Integer.parseInt(words[3]) + (int) offset;
                if (place < 0 || place > 63) {
                    return trapped(1, p, i);
                }
            }
            int when = Math.max(lastBegin, i == 0 ? 0 : taken + 1);
            for (String source : sources(words)) {
                when = Math.max(when, readyOf(source + i));
            }
            if (writesRow(op)) {
                when = Math.max(when, 1 + readyOf(d + i) - latency(unit));
                when = Math.max(when, 1 + readOf(d + i) - latency(unit));
            }
            if (place >= 0) {
                int open = bankTaken.getOrDefault(place % banks, -100) + busy;
                stalls += Math.max(0, open - when);
                when = Math.max(when, open);
                bankTaken.put(place % banks, when);
            }
            taken = when;
            cycles = Math.max(cycles, when);
            ended[k] = when;
            for (String source : sources(words)) {
                setRead(source + i, when);
            }
            if (writesRow(op)) {
                setReady(d + i, when + latency(unit));
            }
            packed = act(words, i, place, masked, packed);
        }
        if (vl > 0) {
            free.put(unit, taken + 1);
            if (compare) {
                setReady("mask", taken + 3);
            }
            if (masked || pack) {
                setRead("mask", taken);
            }
            for (int i = 0; i < packed; i++) {
                setReady(d + i, taken + 3);
            }
        }
        done++;
        return true;
    }

    private void come(String d, int i, double v) {
        if (rows[letter(d)] == null) {
            rows[letter(d)] = new double[16];
        }
        rows[letter(d)][i] = v;
    }

    private int act(String[] words, int i, int place, boolean masked, int packed) {
        String op = words[0];
        double[] d = rows[letter(words[1])];
        switch (op) {
            case "store":
            case "scatter":
                memory[place] = d[i];
                return packed;
            case "less":
                mask[i] = d[i] < rows[letter(words[2])][i];
                return packed;
            case "same":
                mask[i] = d[i] == rows[letter(words[2])][i];
                return packed;
            case "odd":
                mask[i] = d[i] != d[i];
                return packed;
            case "pack":
                if (mask[i]) {
                    come(words[1], packed, rows[letter(words[2])][i]);
                }
                return packed + (mask[i] ? 1 : 0);
            default:
                double v = reckon(words, i, place);
                if (!masked || mask[i]) {
                    come(words[1], i, v);
                }
                return packed;
        }
    }

    private double reckon(String[] words, int i, int place) {
        switch (words[0]) {
            case "iota":
                return i;
            case "fill":
                return scalars[letter(words[2])];
            case "load":
            case "gather":
                return memory[place];
            default:
                break;
        }
        double a = rows[letter(words[2])][i];
        if (ONE.contains(words[0])) {
            return words[0].equals("copy") ? a : words[0].equals("single") ? (float) a : (long) a;
        }
        double b = rows[letter(words[3])][i];
        switch (words[0]) {
            case "add":
                return a + b;
            case "sub":
                return a - b;
            case "mul":
                return a * b;
            case "div":
                return a / b;
            case "rem":
                return a % b;
            case "min":
                return Math.min(a, b);
            default:
                return Math.max(a, b);
        }
    }

    // ---- without a run

    private static List<String> touched(String[] words, boolean written) {
        List<String> all = new ArrayList<>();
        String op = words[0];
        if (written) {
            if (writesRow(op) || op.equals("pack")) {
                all.add(words.length > 1 ? words[1] : "mask");
            }
            if (COMPARE.contains(op)) {
                all.add("mask");
            }
            if (op.equals("store") || op.equals("scatter")) {
                all.add("memory");
            }
            return all;
        }
        all.addAll(op.equals("fold") || op.equals("top") ? List.of(words[2]) : sources(words));
        if (op.equals("fill")) {
            all.add(words[2]);
        }
        if (words[words.length - 1].equals("masked")) {
            all.add("mask");
            all.add(words[1]);
        }
        if (List.of("pack", "count", "flip").contains(op)) {
            all.add("mask");
        }
        if (op.equals("load") || op.equals("gather")) {
            all.add("memory");
        }
        return all;
    }

    private static List<String> writes(String[] words) {
        return words[0].equals("setvl") ? List.of("vl") : touched(words, true);
    }

    private static List<String> reads(String[] words) {
        if (words[0].equals("setvl")) {
            return List.of();
        }
        List<String> all = new ArrayList<>(touched(words, false));
        all.add("vl");
        return all;
    }

    private static boolean meet(List<String> a, List<String> b) {
        return a.stream().anyMatch(b::contains);
    }

    int depends(int j, int k) {
        String[] first = text.get(spot(j));
        String[] second = text.get(spot(k));
        if (List.of("strip", "stop").contains(first[0]) || List.of("strip", "stop").contains(second[0])) {
            return 7;
        }
        return (meet(writes(first), reads(second)) ? 1 : 0) + (meet(reads(first), writes(second)) ? 2 : 0)
            + (meet(writes(first), writes(second)) ? 4 : 0);
    }

    /** The gain, or by how much below -1,000,000 the STATUS is. */
    int swapGain(int k) {
        if (k < 0 || k + 1 >= instructions()) {
            return -1000002;
        }
        if (depends(k, k + 1) != 0 || spot(k + 1) != spot(k) + 1) {
            return -1000009;
        }
        Oracle before = copy();
        before.run();
        Oracle after = copy();
        after.text.set(spot(k), text.get(spot(k + 1)));
        after.text.set(spot(k + 1), text.get(spot(k)));
        after.run();
        return before.trap != 0 || after.trap != 0 ? -1000012 : before.cycles - after.cycles;
    }

    double sum(int row, int what) {
        double[] x = rows[row].clone();
        if (vl == 0) {
            return 0;
        }
        if (what == 2) {
            for (int n = vl; n > 1; n = n - n / 2) {
                int h = n - n / 2;
                for (int i = 0; i + h < n; i++) {
                    x[i] += x[i + h];
                }
            }
            return x[0];
        }
        double total = what == 0 ? x[0] : x[vl - 1];
        for (int i = 1; i < vl; i++) {
            total += what == 0 ? x[i] : x[vl - 1 - i];
        }
        return total;
    }

    int sums(int row) {
        List<Double> unlike = new ArrayList<>();
        for (int what = 0; what < 3; what++) {
            double s = sum(row, what) + 0.0;
            if (!unlike.contains(s)) {
                unlike.add(s);
            }
        }
        return unlike.size();
    }

    static int kind(double v) {
        if (v != v) {
            return 5;
        }
        if (Double.isInfinite(v)) {
            return v > 0 ? 3 : 4;
        }
        if (v == 0) {
            return Double.doubleToRawLongBits(v) == 0 ? 1 : 2;
        }
        return 0;
    }

    static void told(VectorPipes x, String call, int kind, double v) {
        long m = 0;
        int e = 0;
        if (kind(v) == 0) {
            long bits = Double.doubleToRawLongBits(v);
            int field = (int) (bits >> 52 & 2047);
            m = field == 0 ? bits & (1L << 52) - 1 : bits & (1L << 52) - 1 | 1L << 52;
            e = (field == 0 ? 1 : field) - 1075;
            e += Long.numberOfTrailingZeros(m);
            m >>= Long.numberOfTrailingZeros(m);
            m = v < 0 ? -m : m;
        }
        Check.told(x, call, kind, kind(v), m, e);
    }
}
