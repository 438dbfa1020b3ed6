import java.util.Arrays;

/** A vector machine with chained pipes, as ../shared/DOC.md says it. */
public final class VectorPipes {
    public static final int NONE = -1;

    private static final int NO_TRAY = 1;
    private static final int NO_PLACE = 2;
    private static final int MISSING = 3;
    private static final int TOO_FEW = 4;
    private static final int BAD_NUMBER = 5;
    private static final int BELOW_ZERO = 6;
    private static final int ONE_TOO_MANY = 7;
    private static final int NOTHING_THERE = 8;
    private static final int NOT_SO = 9;
    private static final int FAULTY = 10;
    private static final int UNLIKE = 11;
    private static final int TRAPPED = 12;

    private static final int ROWS = 6;
    private static final int LANES = 16;
    private static final int SCALARS = 4;
    private static final int WORDS = 64;
    private static final int MOST_BANKS = 16;
    private static final int MOST_BUSY = 12;
    private static final int MOST_STRIDE = 64;
    private static final int MOST_POWER = 200;
    private static final long MOST_MANTISSA = 9007199254740992L;
    private static final int TRAYS = 4;
    private static final int TRAY_PLACES = 60;
    private static final int TEXT_BYTES = 900;
    private static final int MOST_INSTRUCTIONS = 30;
    private static final int MOST_MARKS = 3;

    private static final int NO_UNIT = -1;
    private static final int MEMORY = 0;
    private static final int MULTIPLIER = 1;
    private static final int DIVIDER = 2;
    private static final int ADDER = 3;
    private static final int[] LATENCY = {5, 4, 7, 3};

    private static final int READS_D = 1;
    private static final int WRITES_D = 2;
    private static final int READS_A = 4;
    private static final int READS_B = 8;
    private static final int READS_MASK = 16;
    private static final int WRITES_MASK = 32;
    private static final int READS_MEMORY = 64;
    private static final int WRITES_MEMORY = 128;
    private static final int READS_SCALAR = 256;
    private static final int WRITES_SCALAR = 512;

    private static final Op[] OPS = Op.values();

    private final Tray[] trays;
    private final byte[] tape;
    private int taped;
    private final Parser parser;
    private final Machine machine;
    private final Machine[] marks;
    private int marked;
    private final Runner runner;
    private final Times latest;
    private boolean hasRun;
    private boolean hasTimes;
    private final Machine trial;
    private final Program swapped;
    private final Times trialTimes;
    private final Binary binary;
    private final Num told;
    private final Num first;
    private final Num other;
    private final Num third;
    private int status;

    public VectorPipes() {
        trays = new Tray[TRAYS];
        for (int t = 0; t < TRAYS; t++) {
            trays[t] = new Tray();
        }
        tape = new byte[TEXT_BYTES];
        parser = new Parser();
        machine = new Machine();
        marks = new Machine[MOST_MARKS];
        for (int k = 0; k < MOST_MARKS; k++) {
            marks[k] = new Machine();
        }
        binary = new Binary();
        runner = new Runner(binary);
        latest = new Times();
        trial = new Machine();
        swapped = new Program();
        trialTimes = new Times();
        told = new Num();
        first = new Num();
        other = new Num();
        third = new Num();
    }

    public int status() {
        return status;
    }

    public long mantissa() {
        return binary.toldMantissa;
    }

    public int exponent() {
        return binary.toldExponent;
    }

    // ---- answers

    private int refuse(int why) {
        status = why;
        return NONE;
    }

    private boolean deny(int why) {
        status = why;
        return false;
    }

    private int answer(int value) {
        status = 0;
        return value;
    }

    private boolean agree() {
        status = 0;
        return true;
    }

    private int tellOf(Num number) {
        return answer(binary.tellKind(number));
    }

    private static boolean within(int value, int least, int most) {
        return value >= least && value <= most;
    }

    private static boolean isWord(int a) {
        return within(a, 0, WORDS - 1);
    }

    // ---- TRAYS

    private static boolean isTray(int tray) {
        return within(tray, 0, TRAYS - 1);
    }

    public boolean tray(int tray, int sort, int many) {
        if (!isTray(tray) || !within(sort, 0, Tray.SORTS - 1)) {
            return deny(NO_TRAY);
        }
        if (many > TRAY_PLACES) {
            return deny(BAD_NUMBER);
        }
        if (many < 0) {
            return deny(BELOW_ZERO);
        }
        trays[tray].begin(sort, many);
        return agree();
    }

    private int trayTrouble(int tray, int place) {
        if (!isTray(tray)) {
            return NO_TRAY;
        }
        if (!trays[tray].there) {
            return MISSING;
        }
        return trays[tray].has(place) ? 0 : TOO_FEW;
    }

    public boolean write(int tray, int place, long v) {
        int trouble = trayTrouble(tray, place);
        if (trouble != 0) {
            return deny(trouble);
        }
        trays[tray].keep(place, v);
        return agree();
    }

    public long read(int tray, int place) {
        int trouble = trayTrouble(tray, place);
        if (trouble != 0) {
            return refuse(trouble);
        }
        status = 0;
        return trays[tray].fetch(place);
    }

    public boolean pour(int tray, int i, int to, int j, int many) {
        if (!isTray(tray) || !isTray(to)) {
            return deny(NO_TRAY);
        }
        Tray from = trays[tray];
        Tray into = trays[to];
        if (!from.there || !into.there) {
            return deny(MISSING);
        }
        if (from.sort != into.sort) {
            return deny(UNLIKE);
        }
        if (many < 0) {
            return deny(BELOW_ZERO);
        }
        if (!from.holds(i, many) || !into.holds(j, many)) {
            return deny(TOO_FEW);
        }
        System.arraycopy(from.cells, i, into.cells, j, many);
        return agree();
    }

    // ---- texts

    public int feed(int a, int b, int c, int d, int e) {
        if (taped + 20 > TEXT_BYTES) {
            return NONE;
        }
        tapeInt(a);
        tapeInt(b);
        tapeInt(c);
        tapeInt(d);
        tapeInt(e);
        return taped;
    }

    private void tapeInt(int four) {
        for (int shift = 24; shift >= 0 && taped < TEXT_BYTES; shift -= 8) {
            tape[taped] = (byte) (four >> shift);
            taped++;
        }
    }

    public int program(int n) {
        if (!within(n, 0, taped)) {
            return refuse(BAD_NUMBER);
        }
        Program found = parser.parse(tape, n);
        taped = 0;
        if (found == null) {
            return refuse(FAULTY);
        }
        machine.plan = found;
        hasTimes = false;
        return answer(found.count);
    }

    public int fault(int what) {
        if (what == 0) {
            return parser.fault;
        }
        return what == 1 ? parser.place : NONE;
    }

    public int many(int what) {
        switch (what) {
            case 0:
                return answer(machine.vl);
            case 1:
                return answer(machine.banks);
            case 2:
                return answer(machine.busy);
            case 3:
                return answer(machine.mask);
            case 4:
                return answer(machine.plan.count);
            case 5:
                return answer(machine.rowsThere());
            default:
                return refuse(BAD_NUMBER);
        }
    }

    // ---- NUMBERS

    private int rowTrouble(int row) {
        if (!within(row, 0, ROWS - 1)) {
            return NO_PLACE;
        }
        return machine.there[row] ? 0 : MISSING;
    }

    private static boolean isNumber(long m, int e) {
        return m >= -MOST_MANTISSA && m <= MOST_MANTISSA && within(e, -MOST_POWER, MOST_POWER);
    }

    public int element(int row, int i) {
        if (!within(i, 0, LANES - 1)) {
            return refuse(NO_PLACE);
        }
        int trouble = rowTrouble(row);
        if (trouble != 0) {
            return refuse(trouble);
        }
        machine.rows[row].fetch(i, told);
        return tellOf(told);
    }

    public int scalar(int scalar) {
        if (!within(scalar, 0, SCALARS - 1)) {
            return refuse(NO_PLACE);
        }
        machine.scalars.fetch(scalar, told);
        return tellOf(told);
    }

    public int word(int a) {
        if (!isWord(a)) {
            return refuse(NO_PLACE);
        }
        machine.memory.fetch(a, told);
        return tellOf(told);
    }

    public int put(int row, int i, long m, int e) {
        if (!within(row, 0, ROWS - 1) || !within(i, 0, LANES - 1)) {
            return refuse(NO_PLACE);
        }
        if (!isNumber(m, e)) {
            return refuse(BAD_NUMBER);
        }
        told.set(binary.join(m, e));
        machine.land(row, i, told);
        return tellOf(told);
    }

    public int give(int scalar, long m, int e) {
        if (!within(scalar, 0, SCALARS - 1)) {
            return refuse(NO_PLACE);
        }
        return placeNumber(machine.scalars, scalar, m, e);
    }

    public int poke(int a, long m, int e) {
        if (!isWord(a)) {
            return refuse(NO_PLACE);
        }
        return placeNumber(machine.memory, a, m, e);
    }

    private int placeNumber(Row row, int i, long m, int e) {
        if (!isNumber(m, e)) {
            return refuse(BAD_NUMBER);
        }
        told.set(binary.join(m, e));
        row.keep(i, told);
        return tellOf(told);
    }

    public int strange(int a, int kind) {
        if (!isWord(a)) {
            return refuse(NO_PLACE);
        }
        if (!within(kind, 1, 5)) {
            return refuse(BAD_NUMBER);
        }
        machine.memory.fetch(a, other);
        int before = other.kind();
        other.setKind(kind);
        machine.memory.keep(a, other);
        return answer(before);
    }

    private int wholesaleTrouble(int a, int tray, int many) {
        if (!isTray(tray)) {
            return NO_TRAY;
        }
        if (many > 0 && (!isWord(a) || many > WORDS - a)) {
            return NO_PLACE;
        }
        if (!trays[tray].there) {
            return MISSING;
        }
        if (many > trays[tray].length) {
            return TOO_FEW;
        }
        return within(many, 0, TRAY_PLACES) ? 0 : BAD_NUMBER;
    }

    public int pokeAll(int a, int tray, int many) {
        int trouble = wholesaleTrouble(a, tray, many);
        if (trouble != 0) {
            return refuse(trouble);
        }
        for (int k = 0; k < many; k++) {
            other.set((double) trays[tray].fetch(k));
            machine.memory.keep(a + k, other);
        }
        return answer(many);
    }

    public int peekAll(int a, int tray, int many) {
        int trouble = wholesaleTrouble(a, tray, many);
        if (trouble != 0) {
            return refuse(trouble);
        }
        for (int k = 0; k < many; k++) {
            machine.memory.fetch(a + k, other);
            trays[tray].keep(k, other.asLong());
        }
        return answer(many);
    }

    public boolean drop(int row) {
        int trouble = rowTrouble(row);
        if (trouble != 0) {
            return deny(trouble);
        }
        machine.there[row] = false;
        return agree();
    }

    public boolean rule(int what, int much) {
        if (what == 0 && within(much, 0, LANES)) {
            machine.vl = much;
        } else if (what == 1 && within(much, 1, MOST_BANKS)) {
            machine.banks = much;
        } else if (what == 2 && within(much, 1, MOST_BUSY)) {
            machine.busy = much;
        } else if (what == 3 && within(much, 0, 65535)) {
            machine.mask = much;
        } else {
            return deny(BAD_NUMBER);
        }
        return agree();
    }

    // ---- runs

    public int run() {
        if (machine.plan.count == 0) {
            return refuse(NOTHING_THERE);
        }
        runner.perform(machine, latest);
        hasRun = true;
        hasTimes = true;
        return latest.trap == 0 ? answer(latest.done) : refuse(TRAPPED);
    }

    public int ran(int what) {
        if (!within(what, 0, 5)) {
            return refuse(BAD_NUMBER);
        }
        if (!hasRun || (what > 3 && latest.trap == 0)) {
            return refuse(NOTHING_THERE);
        }
        switch (what) {
            case 0:
                return answer(latest.cycles);
            case 1:
                return answer(latest.stalled);
            case 2:
                return answer(latest.done);
            case 3:
                return answer(latest.trap);
            case 4:
                return answer(latest.trapAt);
            default:
                return answer(latest.trapElement);
        }
    }

    private boolean isInstruction(int k) {
        return within(k, 0, Math.min(machine.plan.count, MOST_INSTRUCTIONS) - 1);
    }

    public int time(int instruction, int what) {
        if (!isInstruction(instruction)) {
            return refuse(NO_PLACE);
        }
        if (!within(what, 0, 1)) {
            return refuse(BAD_NUMBER);
        }
        int when = what == 0 ? latest.began[instruction] : latest.ended[instruction];
        return !hasTimes || when == NONE ? refuse(NOTHING_THERE) : answer(when);
    }

    // ---- what is seen without a run

    public int sum(int row, int what) {
        int trouble = rowTrouble(row);
        if (trouble != 0) {
            return refuse(trouble);
        }
        if (!within(what, 0, 2)) {
            return refuse(BAD_NUMBER);
        }
        sumInto(told, row, what);
        return tellOf(told);
    }

    private void sumInto(Num total, int row, int what) {
        if (what == 2) {
            runner.halve(machine.rows[row], machine.vl, false, total);
        } else {
            runner.addUp(machine.rows[row], machine.vl, what == 1, total);
        }
    }

    public int sums(int row) {
        int trouble = rowTrouble(row);
        if (trouble != 0) {
            return refuse(trouble);
        }
        sumInto(first, row, 0);
        sumInto(other, row, 1);
        boolean alike = first.alike(other);
        sumInto(third, row, 2);
        boolean seen = third.alike(first) || third.alike(other);
        return answer(1 + (alike ? 0 : 1) + (seen ? 0 : 1));
    }

    private static int halvingTrouble(int n, int i) {
        if (i < 0 || i >= n) {
            return NO_PLACE;
        }
        if (!within(n, 1, LANES)) {
            return BAD_NUMBER;
        }
        return i == 0 ? NOTHING_THERE : 0;
    }

    public int roundOf(int n, int i) {
        int trouble = halvingTrouble(n, i);
        if (trouble != 0) {
            return refuse(trouble);
        }
        int round = 0;
        int h = (n + 1) / 2;
        while (h > i && round < LANES) {
            h = (h + 1) / 2;
            round++;
        }
        return answer(round);
    }

    public int partnerOf(int n, int i) {
        int trouble = halvingTrouble(n, i);
        if (trouble != 0) {
            return refuse(trouble);
        }
        int h = (n + 1) / 2;
        for (int round = 0; h > i && round < LANES; round++) {
            h = (h + 1) / 2;
        }
        return answer(i - h);
    }

    private int aloneTrouble(int a, int by, int n) {
        if (!isWord(a)) {
            return NO_PLACE;
        }
        return within(by, 0, MOST_STRIDE) && within(n, 0, WORDS) ? 0 : BAD_NUMBER;
    }

    public int stalls(int a, int by, int n) {
        int trouble = aloneTrouble(a, by, n);
        if (trouble != 0) {
            return refuse(trouble);
        }
        return answer(trialTimes.stallsAlone(a, by, n, machine.banks, machine.busy));
    }

    public int banksFor(int a, int by, int n) {
        int trouble = aloneTrouble(a, by, n);
        if (trouble != 0) {
            return refuse(trouble);
        }
        for (int banks = 1; banks <= MOST_BANKS; banks++) {
            if (trialTimes.stallsAlone(a, by, n, banks, machine.busy) == 0) {
                return answer(banks);
            }
        }
        return refuse(NOTHING_THERE);
    }

    public int worst(int a, int n) {
        int trouble = aloneTrouble(a, 1, n);
        if (trouble != 0) {
            return refuse(trouble);
        }
        int worstStride = 1;
        int most = -1;
        for (int by = 1; by <= 16; by++) {
            int lost = trialTimes.stallsAlone(a, by, n, machine.banks, machine.busy);
            if (lost > most) {
                most = lost;
                worstStride = by;
            }
        }
        return answer(worstStride);
    }

    public int depends(int instruction, int other) {
        if (!isInstruction(instruction) || !isInstruction(other)) {
            return refuse(NO_PLACE);
        }
        if (instruction >= other) {
            return refuse(NOT_SO);
        }
        return answer(machine.plan.ties(instruction, other));
    }

    public int swapGain(int instruction) {
        if (!isInstruction(instruction) || instruction >= machine.plan.count - 1) {
            return refuse(NO_PLACE);
        }
        if (!machine.plan.canSwap(instruction)) {
            return refuse(NOT_SO);
        }
        int before = trialCycles(NONE);
        int after = before == NONE ? NONE : trialCycles(instruction);
        return after == NONE ? refuse(TRAPPED) : answer(before - after);
    }

    public int bestSwap() {
        int best = NONE;
        int most = 0;
        int before = machine.plan.count < 2 ? NONE : trialCycles(NONE);
        for (int k = 0; before != NONE && k < machine.plan.count - 1; k++) {
            int after = machine.plan.canSwap(k) ? trialCycles(k) : NONE;
            if (after != NONE && before - after > most) {
                most = before - after;
                best = k;
            }
        }
        return best == NONE ? refuse(NOTHING_THERE) : answer(best);
    }

    /** CYCLES of a run on a copy of all, INSTRUCTIONS k and k + 1 swapped but for NONE; NONE if it TRAPS. */
    private int trialCycles(int k) {
        trial.copyFrom(machine);
        if (k != NONE) {
            swapped.copySwapped(machine.plan, k);
            trial.plan = swapped;
        }
        runner.perform(trial, trialTimes);
        return trialTimes.trap == 0 ? trialTimes.cycles : NONE;
    }

    // ---- MARKS

    public int mark() {
        if (!within(marked, 0, MOST_MARKS - 1)) {
            return refuse(ONE_TOO_MANY);
        }
        marks[marked].copyFrom(machine);
        marked++;
        return answer(marked);
    }

    public int back() {
        if (!within(marked, 1, MOST_MARKS)) {
            return refuse(NOTHING_THERE);
        }
        marked--;
        machine.copyFrom(marks[marked]);
        hasTimes = false;
        return answer(marked);
    }

    // ---- the classes inside

    /**
     * What an INSTRUCTION is called, looks like and touches. The form has one sign for each token
     * behind the word: d, a, b ROWS; s SCALAR; v, p, y, n NUMBERS; @ at; * by; f of; m perhaps masked.
     */
    private enum Op {
        SETVL("setvl", "v;", NO_UNIT, 0),
        IOTA("iota", "d;", ADDER, WRITES_D),
        FILL("fill", "ds;", ADDER, WRITES_D | READS_SCALAR),
        LOAD("load", "d@p*y;", MEMORY, WRITES_D | READS_MEMORY),
        STORE("store", "d@p*y;", MEMORY, READS_D | WRITES_MEMORY),
        GATHER("gather", "d@pfb;", MEMORY, WRITES_D | READS_B | READS_MEMORY),
        SCATTER("scatter", "d@pfb;", MEMORY, READS_D | READS_B | WRITES_MEMORY),
        ADD("add", "dabm;", ADDER, WRITES_D | READS_A | READS_B),
        SUB("sub", "dabm;", ADDER, WRITES_D | READS_A | READS_B),
        MUL("mul", "dabm;", MULTIPLIER, WRITES_D | READS_A | READS_B),
        DIV("div", "dabm;", DIVIDER, WRITES_D | READS_A | READS_B),
        REM("rem", "dabm;", DIVIDER, WRITES_D | READS_A | READS_B),
        MIN("min", "dabm;", ADDER, WRITES_D | READS_A | READS_B),
        MAX("max", "dabm;", ADDER, WRITES_D | READS_A | READS_B),
        COPY("copy", "dam;", ADDER, WRITES_D | READS_A),
        SINGLE("single", "dam;", ADDER, WRITES_D | READS_A),
        WHOLE("whole", "dam;", ADDER, WRITES_D | READS_A),
        LESS("less", "da;", ADDER, READS_D | READS_A | WRITES_MASK),
        SAME("same", "da;", ADDER, READS_D | READS_A | WRITES_MASK),
        ODD("odd", "d;", ADDER, READS_D | WRITES_MASK),
        FLIP("flip", ";", NO_UNIT, READS_MASK | WRITES_MASK),
        PACK("pack", "da;", ADDER, WRITES_D | READS_A | READS_MASK),
        COUNT("count", "s;", NO_UNIT, READS_MASK | WRITES_SCALAR),
        FOLD("fold", "sd;", NO_UNIT, READS_D | WRITES_SCALAR),
        TOP("top", "sd;", NO_UNIT, READS_D | WRITES_SCALAR),
        STRIP("strip", "n;", NO_UNIT, 0),
        STOP("stop", ";", NO_UNIT, 0),
        END("end", ";", NO_UNIT, 0);

        final String called;
        final String form;
        final int unit;
        final int ways;

        Op(String called, String form, int unit, int ways) {
            this.called = called;
            this.form = form;
            this.unit = unit;
            this.ways = ways;
        }

        boolean does(int way) {
            return (ways & way) != 0;
        }

        int latency() {
            return unit >= 0 && unit < LATENCY.length ? LATENCY[unit] : 0;
        }

        boolean steers() {
            return this == STRIP || this == STOP || this == END;
        }
    }

    /** One INSTRUCTION of a PROGRAM; of a strip, too, where the INSTRUCTIONS behind its end begin. */
    private static final class Instr {
        private static final int MASK_BIT = 1 << (ROWS + SCALARS);
        private static final int MEMORY_BIT = MASK_BIT << 1;
        private static final int VL_BIT = MASK_BIT << 2;

        final Op op;
        int d;
        int a;
        int b;
        int scalar;
        int at;
        int by;
        int number;
        boolean masked;
        int behind;

        Instr(Op op) {
            this.op = op;
        }

        boolean usesMask() {
            return masked || op.does(READS_MASK | WRITES_MASK);
        }

        private int bit(int way, int bit) {
            return op.does(way) ? bit : 0;
        }

        /** All that it reads, a bit each, as DEPENDS asks it: there a masked D is read, too. */
        int uses() {
            return (op == Op.SETVL ? 0 : VL_BIT)
                | (masked ? (1 << d) | MASK_BIT : 0)
                | bit(READS_D, 1 << d)
                | bit(READS_A, 1 << a)
                | bit(READS_B, 1 << b)
                | bit(READS_SCALAR, 1 << (ROWS + scalar))
                | bit(READS_MASK, MASK_BIT)
                | bit(READS_MEMORY, MEMORY_BIT);
        }

        int changes() {
            return (op == Op.SETVL ? VL_BIT : 0)
                | bit(WRITES_D, 1 << d)
                | bit(WRITES_SCALAR, 1 << (ROWS + scalar))
                | bit(WRITES_MASK, MASK_BIT)
                | bit(WRITES_MEMORY, MEMORY_BIT);
        }
    }

    /** INSTRUCTIONS in the order of the text. */
    private static final class Program {
        final Instr[] list;
        int count;

        Program() {
            list = new Instr[MOST_INSTRUCTIONS];
        }

        Instr append(Op op) {
            Instr added = new Instr(op);
            if (count < list.length) {
                list[count] = added;
                count++;
            }
            return added;
        }

        Instr at(int k) {
            return k >= 0 && k < count && k < list.length ? list[k] : null;
        }

        void copySwapped(Program from, int k) {
            count = from.count;
            for (int j = 0; j < count && j < list.length; j++) {
                list[j] = from.at(j);
            }
            Instr first = from.at(k);
            Instr second = from.at(k + 1);
            if (first != null && second != null) {
                list[k] = second;
                list[k + 1] = first;
            }
        }

        /** DEPENDS of two INSTRUCTIONS, j ahead of k. */
        int ties(int j, int k) {
            Instr first = at(j);
            Instr second = at(k);
            if (first == null || second == null || first.op.steers() || second.op.steers()) {
                return 7;
            }
            return ((first.changes() & second.uses()) != 0 ? 1 : 0)
                | ((first.uses() & second.changes()) != 0 ? 2 : 0)
                | ((first.changes() & second.changes()) != 0 ? 4 : 0);
        }

        boolean canSwap(int k) {
            return ties(k, k + 1) == 0 && !endsAhead(k + 1);
        }

        private boolean endsAhead(int k) {
            for (int j = 0; j < count; j++) {
                Instr in = at(j);
                if (in != null && in.op == Op.STRIP && in.behind == k) {
                    return true;
                }
            }
            return false;
        }
    }

    /** Reads a PROGRAM from a text, or finds its first FAULT. */
    private static final class Parser {
        private static final int NO_TOKEN = 0;
        private static final int WORD = 1;
        private static final int NUMBER = 2;
        private static final int SIGN = 3;

        int fault;
        int place;
        private byte[] text;
        private int length;
        private int start;
        private int end;
        private int sort;
        private Program program;
        private Instr current;
        private String form;
        private int step;
        private Instr open;

        Parser() {
            fault = NONE;
            place = NONE;
            text = new byte[0];
            form = "";
        }

        Program parse(byte[] bytes, int n) {
            text = bytes;
            length = Math.min(n, bytes.length);
            end = 0;
            program = new Program();
            current = null;
            form = "";
            step = 0;
            open = null;
            fault = 0;
            place = NONE;
            for (int tokens = 0; tokens <= length && fault == 0 && nextToken(); tokens++) {
                fault = tokenFault();
                place = fault == 0 ? NONE : start;
            }
            if (fault == 0 && (step < form.length() || open != null)) {
                fault = 2;
                place = length;
            }
            return fault == 0 ? program : null;
        }

        /** Finds the token behind the last one; false at the text's end. */
        private boolean nextToken() {
            start = end;
            while (start < length && (text[start] == 10 || text[start] == 32)) {
                start++;
            }
            end = start;
            if (start >= length) {
                return false;
            }
            sort = sortOf(text[start]);
            end++;
            while ((sort == WORD || sort == NUMBER) && end < length && sortOf(text[end]) == sort) {
                end++;
            }
            if (sort == NUMBER && end - start > 4) {
                sort = NO_TOKEN;
            }
            return true;
        }

        private static int sortOf(byte sign) {
            if (sign >= 'a' && sign <= 'z') {
                return WORD;
            }
            if (sign >= '0' && sign <= '9') {
                return NUMBER;
            }
            return sign == ';' ? SIGN : NO_TOKEN;
        }

        private int tokenFault() {
            if (sort == NO_TOKEN) {
                return 1;
            }
            return step < form.length() ? follow() : beginInstruction();
        }

        private int beginInstruction() {
            Op op = opNamed();
            if (op == null || (op == Op.END && open == null)) {
                return 2;
            }
            form = op.form;
            step = 0;
            if (op == Op.END) {
                open.behind = program.count;
                open = null;
                current = null;
                return 0;
            }
            if (program.count >= MOST_INSTRUCTIONS) {
                return 6;
            }
            if (op == Op.STRIP && open != null) {
                return 7;
            }
            current = program.append(op);
            if (op == Op.STRIP) {
                open = current;
            }
            return 0;
        }

        private int follow() {
            char want = form.charAt(step);
            step++;
            if (want == 'm') {
                if (isText("masked") && current != null) {
                    current.masked = true;
                    return 0;
                }
                want = step < form.length() ? form.charAt(step) : ';';
                step++;
            }
            switch (want) {
                case ';':
                    return sort == SIGN ? 0 : 2;
                case '@':
                    return isText("at") ? 0 : 2;
                case '*':
                    return isText("by") ? 0 : 2;
                case 'f':
                    return isText("of") ? 0 : 2;
                case 'd':
                case 'a':
                case 'b':
                case 's':
                    return followName(want);
                default:
                    return followNumber(want);
            }
        }

        private int followName(char want) {
            int which = want == 's' ? letterBehind('s', SCALARS) : letterBehind('v', ROWS);
            if (which == NONE || current == null) {
                return 2;
            }
            if (want == 'd') {
                current.d = which;
            } else if (want == 'a') {
                current.a = which;
            } else if (want == 'b') {
                current.b = which;
            } else {
                current.scalar = which;
            }
            return 0;
        }

        private int followNumber(char want) {
            if (sort != NUMBER || current == null) {
                return 2;
            }
            int value = 0;
            for (int k = start; k < end; k++) {
                value = value * 10 + (text[k] - '0');
            }
            if (value > mostFor(want)) {
                return 4;
            }
            if (want == 'p') {
                current.at = value;
            } else if (want == 'y') {
                current.by = value;
            } else {
                current.number = value;
            }
            return 0;
        }

        private static int mostFor(char want) {
            if (want == 'p') {
                return WORDS - 1;
            }
            return want == 'n' ? 200 : 16;
        }

        private int letterBehind(char first, int many) {
            if (sort != WORD || end - start != 2 || text[start] != first) {
                return NONE;
            }
            int which = text[start + 1] - 'a';
            return which < many ? which : NONE;
        }

        private boolean isText(String wanted) {
            if (sort != WORD || end - start != wanted.length()) {
                return false;
            }
            for (int k = 0; k < wanted.length(); k++) {
                if (text[start + k] != wanted.charAt(k)) {
                    return false;
                }
            }
            return true;
        }

        private Op opNamed() {
            for (Op op : OPS) {
                if (isText(op.called)) {
                    return op;
                }
            }
            return null;
        }
    }

    /** A TRAY: its places are made once and used again. */
    private static final class Tray {
        static final int SORTS = 4;

        boolean there;
        int sort;
        int length;
        final long[] cells;

        Tray() {
            cells = new long[TRAY_PLACES];
        }

        void begin(int newSort, int many) {
            there = true;
            sort = newSort;
            length = many;
            Arrays.fill(cells, 0L);
        }

        boolean has(int place) {
            return place >= 0 && place < length && place < cells.length;
        }

        boolean holds(int place, int many) {
            return place >= 0 && many >= 0 && many <= length && place <= length - many;
        }

        long fetch(int place) {
            return has(place) ? cells[place] : 0;
        }

        void keep(int place, long value) {
            if (has(place)) {
                cells[place] = cut(value);
            }
        }

        private long cut(long value) {
            switch (sort) {
                case 0:
                    return (byte) value;
                case 1:
                    return (short) value;
                case 2:
                    return (int) value;
                default:
                    return value;
            }
        }
    }

    /** One NUMBER. That it is no number stands beside it, as nothing here may reckon to NaN. */
    private static final class Num {
        static final int ZERO = 1;
        static final int MINUS_ZERO = 2;
        static final int INFINITE = 3;
        static final int MINUS_INFINITE = 4;
        static final int ODD = 5;

        double value;
        boolean odd;

        void set(double v) {
            value = v;
            odd = false;
        }

        void setOdd() {
            value = 0.0;
            odd = true;
        }

        void setKind(int kind) {
            switch (kind) {
                case MINUS_ZERO:
                    set(-0.0);
                    break;
                case INFINITE:
                    set(1.0 / 0.0);
                    break;
                case MINUS_INFINITE:
                    set(-1.0 / 0.0);
                    break;
                case ODD:
                    setOdd();
                    break;
                default:
                    set(0.0);
                    break;
            }
        }

        int kind() {
            if (odd) {
                return ODD;
            }
            if (value == 0.0) {
                return isMinusZero(value) ? MINUS_ZERO : ZERO;
            }
            if (isInfinite(value)) {
                return value > 0.0 ? INFINITE : MINUS_INFINITE;
            }
            return 0;
        }

        static boolean isInfinite(double v) {
            return v > 1.7976931348623157E308 || v < -1.7976931348623157E308;
        }

        static boolean isMinusZero(double v) {
            return v == 0.0 && 1.0 / v < 0.0;
        }

        /** True, and no number then, if either is none. */
        private boolean takesOdd(Num by) {
            if (odd || by.odd) {
                value = 0.0;
                odd = true;
            }
            return odd;
        }

        void plus(Num by) {
            if (takesOdd(by)) {
                return;
            }
            if (isInfinite(value) && value == -by.value) {
                setOdd();
            } else {
                value = value + by.value;
            }
        }

        void minus(Num by) {
            if (takesOdd(by)) {
                return;
            }
            if (isInfinite(value) && value == by.value) {
                setOdd();
            } else {
                value = value - by.value;
            }
        }

        void times(Num by) {
            if (takesOdd(by)) {
                return;
            }
            if ((value == 0.0 && isInfinite(by.value)) || (isInfinite(value) && by.value == 0.0)) {
                setOdd();
            } else {
                value = value * by.value;
            }
        }

        void over(Num by) {
            if (takesOdd(by)) {
                return;
            }
            if ((value == 0.0 && by.value == 0.0) || (isInfinite(value) && isInfinite(by.value))) {
                setOdd();
            } else {
                value = value / by.value;
            }
        }

        void least(Num by) {
            if (takesOdd(by)) {
                return;
            }
            if (by.value < value || isMinusZero(by.value) && value == 0.0) {
                value = by.value;
            }
        }

        void most(Num by) {
            if (takesOdd(by)) {
                return;
            }
            if (by.value > value || isMinusZero(value) && by.value == 0.0) {
                value = by.value;
            }
        }

        void toSingle() {
            value = (double) (float) value;
        }

        long asLong() {
            return odd ? 0L : (long) value;
        }

        void toWhole() {
            set((double) asLong());
        }

        boolean isLess(Num than) {
            return !odd && !than.odd && value < than.value;
        }

        boolean isSame(Num as) {
            return !odd && !as.odd && value == as.value;
        }

        boolean alike(Num as) {
            return (odd && as.odd) || isSame(as);
        }

        /** If one may gather, scatter by it. */
        boolean isOffset() {
            return !odd && value >= -1000000.0 && value <= 1000000.0 && value == (double) (int) value;
        }
    }

    /** NUMBERS taken apart into a whole mantissa and a power of 2, and put together again. */
    private static final class Binary {
        private static final int STEPS = 10;

        long toldMantissa;
        int toldExponent;
        /** 2 to the 1, 2, 4 .. 512. */
        private final double[] powers;
        private long mantissa;
        private int exponent;

        Binary() {
            powers = new double[STEPS];
            double power = 2.0;
            for (int k = 0; k < STEPS; k++) {
                powers[k] = power;
                power = k < STEPS - 1 ? power * power : power;
            }
        }

        int tellKind(Num number) {
            int kind = number.kind();
            toldMantissa = 0L;
            toldExponent = 0;
            if (kind == 0) {
                split(number.value);
                for (int k = 0; k < 64 && (mantissa & 1L) == 0L; k++) {
                    mantissa = mantissa / 2L;
                    exponent++;
                }
                toldMantissa = mantissa;
                toldExponent = exponent;
            }
            return kind;
        }

        /** Finite and not 0: its mantissa has 53 bits then. */
        private void split(double v) {
            double left = v < 0.0 ? -v : v;
            exponent = 0;
            for (int k = STEPS - 1; k >= 0; k--) {
                // the greatest step is taken twice for the least of all numbers, 2 to the -1074
                for (int turn = 0; turn < 2 && left < 9007199254740992.0 / powers[k]; turn++) {
                    left = left * powers[k];
                    exponent -= 1 << k;
                }
            }
            for (int k = STEPS - 1; k >= 0; k--) {
                if (left / powers[k] >= 4503599627370496.0) {
                    left = left / powers[k];
                    exponent += 1 << k;
                }
            }
            mantissa = v < 0.0 ? -(long) left : (long) left;
        }

        /** m times 2 to the e, for an m and e of which that is a double, exactly. */
        double join(long m, int e) {
            double v = (double) m;
            int left = e < 0 ? -e : e;
            for (int k = STEPS - 1; k >= 0; k--) {
                for (int turn = 0; turn < 2 && left >= 1 << k; turn++) {
                    v = e < 0 ? v / powers[k] : v * powers[k];
                    left -= 1 << k;
                }
            }
            return v;
        }

        /** What is left of a division rounded towards 0, exactly, with the sign of what was divided. */
        void remainder(Num x, Num by) {
            if (x.odd || by.odd || Num.isInfinite(x.value) || by.value == 0.0) {
                x.setOdd();
                return;
            }
            double size = x.value < 0.0 ? -x.value : x.value;
            double bySize = by.value < 0.0 ? -by.value : by.value;
            if (size < bySize || size == 0.0) {
                return;
            }
            split(bySize);
            long divisor = mantissa;
            int unit = exponent;
            split(size);
            if (divisor <= 0L) {
                return;
            }
            long rest = mantissa % divisor;
            // ten bits at a time: as many as a long has above the 53 of the rest
            for (int gap = exponent - unit; gap > 0; gap -= 10) {
                rest = (rest << Math.min(gap, 10)) % divisor;
            }
            double result = join(rest, unit);
            x.value = x.value < 0.0 ? -result : result;
        }
    }

    /** NUMBERS side by side: a ROW, the SCALARS, the MEMORY. */
    private static final class Row {
        private final double[] values;
        private final boolean[] odd;

        Row(int many) {
            int size = Math.max(many, 0);
            values = new double[size];
            odd = new boolean[size];
        }

        void fetch(int i, Num into) {
            if (i >= 0 && i < values.length && i < odd.length) {
                into.value = values[i];
                into.odd = odd[i];
            }
        }

        void keep(int i, Num number) {
            if (i >= 0 && i < values.length && i < odd.length) {
                values[i] = number.value;
                odd[i] = number.odd;
            }
        }

        void clear() {
            for (int i = 0; i < values.length && i < odd.length; i++) {
                values[i] = 0.0;
                odd[i] = false;
            }
        }

        /** Of one of the same length. */
        void copyFrom(Row from) {
            System.arraycopy(from.values, 0, values, 0, Math.min(values.length, from.values.length));
            for (int i = 0; i < odd.length && i < from.odd.length; i++) {
                odd[i] = from.odd[i];
            }
        }
    }

    /** All that a MARK keeps. */
    private static final class Machine {
        final Row[] rows;
        final boolean[] there;
        final Row scalars;
        final Row memory;
        int mask;
        int vl;
        int banks;
        int busy;
        Program plan;

        Machine() {
            rows = new Row[ROWS];
            for (int r = 0; r < ROWS; r++) {
                rows[r] = new Row(LANES);
            }
            there = new boolean[ROWS];
            scalars = new Row(SCALARS);
            memory = new Row(WORDS);
            vl = LANES;
            banks = 8;
            busy = 4;
            plan = new Program();
        }

        void copyFrom(Machine from) {
            for (int r = 0; r < ROWS; r++) {
                there[r] = from.there[r];
                rows[r].copyFrom(from.rows[r]);
            }
            scalars.copyFrom(from.scalars);
            memory.copyFrom(from.memory);
            mask = from.mask;
            vl = from.vl;
            banks = from.banks;
            busy = from.busy;
            plan = from.plan;
        }

        int rowsThere() {
            int set = 0;
            for (int r = 0; r < ROWS; r++) {
                set |= there[r] ? 1 << r : 0;
            }
            return set;
        }

        /** A MISSING ROW is zeros ahead of its first element. */
        void land(int row, int i, Num number) {
            if (row < 0 || row >= ROWS) {
                return;
            }
            if (!there[row]) {
                rows[row].clear();
                there[row] = true;
            }
            rows[row].keep(i, number);
        }

        void fetch(int row, int i, Num into) {
            if (row >= 0 && row < ROWS) {
                rows[row].fetch(i, into);
            }
        }

        Row rowAt(int row) {
            return rows[row >= 0 && row < ROWS ? row : 0];
        }

        boolean isMissing(int row) {
            return row < 0 || row >= ROWS || !there[row];
        }

        boolean bit(int i) {
            return (mask >> i & 1) != 0;
        }

        void setBit(int i, boolean on) {
            mask = on ? mask | 1 << i : mask & ~(1 << i);
        }

        int bankOf(int place) {
            return banks > 0 ? place % banks : 0;
        }

        /** The MASK's bits that count. */
        int lowBits() {
            return (1 << vl) - 1;
        }
    }

    /** The TIMES of one run, and what else is told of it. */
    private static final class Times {
        int cycles;
        int stalled;
        int done;
        int trap;
        int trapAt;
        int trapElement;
        final int[] began;
        final int[] ended;
        private int begun;
        private int lastEnd;
        private int taken;
        private int maskReady;
        private int maskRead;
        private final int[] free;
        private final int[] ready;
        private final int[] lastRead;
        private final int[] bankFree;

        Times() {
            began = new int[MOST_INSTRUCTIONS];
            ended = new int[MOST_INSTRUCTIONS];
            free = new int[LATENCY.length];
            ready = new int[ROWS * LANES];
            lastRead = new int[ROWS * LANES];
            bankFree = new int[MOST_BANKS];
        }

        void clear() {
            cycles = 0;
            stalled = 0;
            done = 0;
            trap = 0;
            trapAt = NONE;
            trapElement = NONE;
            begun = -1;
            lastEnd = 0;
            taken = 0;
            maskReady = 0;
            maskRead = 0;
            Arrays.fill(began, NONE);
            Arrays.fill(ended, NONE);
            Arrays.fill(free, 0);
            Arrays.fill(ready, 0);
            Arrays.fill(lastRead, 0);
            Arrays.fill(bankFree, 0);
        }

        private void note(int when) {
            if (when > cycles) {
                cycles = when;
            }
        }

        private static int cell(int row, int i) {
            return row >= 0 && row < ROWS && i >= 0 && i < LANES ? row * LANES + i : 0;
        }

        private int readyAt(int row, int i) {
            return ready[cell(row, i)];
        }

        private void readNow(int row, int i, int when) {
            int c = cell(row, i);
            lastRead[c] = Math.max(lastRead[c], when);
        }

        private void readyFrom(int row, int i, int when) {
            ready[cell(row, i)] = when;
            note(when);
        }

        /** An end BEGINS as an INSTRUCTION does, but is none. */
        void beginEnd() {
            begun = Math.max(begun + 1, lastEnd);
            note(begun);
        }

        void beginInstr(int k, Instr in, int vl) {
            int when = Math.max(begun + 1, lastEnd);
            int unit = in.op.unit;
            if (unit >= 0 && unit < free.length) {
                when = Math.max(when, free[unit]);
            }
            if (in.usesMask()) {
                when = Math.max(when, maskReady);
            }
            if (in.op.does(WRITES_MASK)) {
                when = Math.max(when, maskRead);
            }
            if (in.op == Op.PACK || in.op == Op.FOLD || in.op == Op.TOP) {
                when = Math.max(when, rowReady(in, vl));
            }
            begun = when;
            note(when);
            if (k >= 0 && k < began.length && k < ended.length) {
                began[k] = when;
                ended[k] = NONE;
            }
        }

        private int rowReady(Instr in, int vl) {
            int when = 0;
            for (int i = 0; i < vl; i++) {
                int c = cell(in.d, i);
                when = Math.max(when, ready[c]);
                if (in.op == Op.PACK) {
                    when = Math.max(when, lastRead[c]);
                }
            }
            return when;
        }

        private void endAt(int k, int when) {
            note(when);
            if (k >= 0 && k < ended.length) {
                ended[k] = when;
            }
        }

        /** Element i is TAKEN; the bank is NONE outside the MEMORY. */
        void take(int k, Instr in, int i, int bank, int busy) {
            int latency = in.op.latency();
            boolean writes = in.op.does(WRITES_D) && in.op != Op.PACK;
            int when = i == 0 ? begun : Math.max(begun, taken + 1);
            when = Math.max(when, operandsReady(in, i));
            if (writes) {
                int c = cell(in.d, i);
                when = Math.max(when, Math.max(ready[c], lastRead[c]) + 1 - latency);
            }
            taken = throughBank(when, bank, busy);
            readOperands(in, i);
            if (writes) {
                readyFrom(in.d, i, taken + latency);
            }
            endAt(k, taken);
        }

        private int operandsReady(Instr in, int i) {
            int when = 0;
            if (in.op.does(READS_D)) {
                when = Math.max(when, readyAt(in.d, i));
            }
            if (in.op.does(READS_A)) {
                when = Math.max(when, readyAt(in.a, i));
            }
            if (in.op.does(READS_B)) {
                when = Math.max(when, readyAt(in.b, i));
            }
            return when;
        }

        private void readOperands(Instr in, int i) {
            if (in.op.does(READS_D)) {
                readNow(in.d, i, taken);
            }
            if (in.op.does(READS_A)) {
                readNow(in.a, i, taken);
            }
            if (in.op.does(READS_B)) {
                readNow(in.b, i, taken);
            }
        }

        private int throughBank(int when, int bank, int busy) {
            if (bank < 0 || bank >= bankFree.length) {
                return when;
            }
            int later = Math.max(when, bankFree[bank]);
            stalled += later - when;
            bankFree[bank] = later + busy;
            return later;
        }

        /** Behind the last element of an INSTRUCTION with elements; so many were packed. */
        void finish(Instr in, int packed) {
            int unit = in.op.unit;
            int behind = taken + in.op.latency();
            if (unit >= 0 && unit < free.length) {
                free[unit] = taken + 1;
            }
            if (in.op.does(WRITES_MASK)) {
                maskReady = behind;
                note(behind);
            }
            if (in.masked || in.op.does(READS_MASK)) {
                maskRead = Math.max(maskRead, taken);
            }
            if (in.op == Op.PACK) {
                for (int i = 0; i < packed; i++) {
                    readyFrom(in.d, i, behind);
                }
            }
        }

        void flip() {
            maskRead = Math.max(maskRead, begun);
            maskReady = begun + 1;
            note(maskReady);
        }

        void count(int k) {
            maskRead = Math.max(maskRead, begun);
            lastEnd = begun + 1;
            endAt(k, lastEnd);
        }

        void fold(int k, Instr in, int vl, int halvings) {
            for (int i = 0; i < vl; i++) {
                readNow(in.d, i, begun);
            }
            lastEnd = begun + 3 * halvings;
            endAt(k, lastEnd);
        }

        int stallsAlone(int a, int by, int n, int banks, int busy) {
            Arrays.fill(bankFree, 0);
            stalled = 0;
            int next = 0;
            for (int i = 0; i < n && banks > 0; i++) {
                next = throughBank(next, (a + by * i) % WORDS % banks, busy) + 1;
            }
            return stalled;
        }
    }

    /** Does the PROGRAM of a machine. */
    private static final class Runner {
        private static final int MOST_TURNS = 1000000;

        private final Binary binary;
        private final Row work;
        private final Num x;
        private final Num y;
        private Machine m;
        private Times times;
        private Instr strip;
        private int stripAt;
        private int vlAhead;
        private int base;
        private int packed;

        Runner(Binary binary) {
            this.binary = binary;
            work = new Row(LANES);
            x = new Num();
            y = new Num();
        }

        void perform(Machine machine, Times newTimes) {
            m = machine;
            times = newTimes;
            times.clear();
            strip = null;
            base = 0;
            int k = 0;
            for (int turn = 0; turn < MOST_TURNS && k != NONE; turn++) {
                Instr in = m.plan.at(k);
                if (strip != null && k >= strip.behind) {
                    k = endRound();
                } else if (in == null) {
                    k = NONE;
                } else {
                    times.beginInstr(k, in, m.vl);
                    boolean fine = in.op.unit == NO_UNIT ? doAtOnce(k, in) : doElements(k, in);
                    times.done += fine ? 1 : 0;
                    k = fine ? behind(k, in) : NONE;
                }
            }
        }

        /** Where the run goes on behind the INSTRUCTION at k, NONE if it ends there. */
        private int behind(int k, Instr in) {
            if (in.op == Op.STRIP) {
                return beginStrip(k, in);
            }
            return in.op == Op.STOP ? NONE : k + 1;
        }

        private int beginStrip(int k, Instr in) {
            if (in.number == 0) {
                return Math.max(in.behind, k + 1);
            }
            strip = in;
            stripAt = k;
            vlAhead = m.vl;
            base = 0;
            m.vl = Math.min(LANES, in.number);
            return k + 1;
        }

        private int endRound() {
            times.beginEnd();
            base += LANES;
            if (base < strip.number) {
                m.vl = Math.min(LANES, strip.number - base);
                return stripAt + 1;
            }
            int behind = strip.behind;
            base = 0;
            m.vl = vlAhead;
            strip = null;
            return behind;
        }

        /** What TRAPS ends the run. */
        private boolean trap(int kind, int k, int element) {
            times.trap = kind;
            times.trapAt = k;
            times.trapElement = element;
            return false;
        }

        private boolean doAtOnce(int k, Instr in) {
            switch (in.op) {
                case SETVL:
                    m.vl = in.number;
                    return true;
                case FLIP:
                    m.mask ^= m.lowBits();
                    times.flip();
                    return true;
                case COUNT:
                    x.set((double) Integer.bitCount(m.mask & m.lowBits()));
                    m.scalars.keep(in.scalar, x);
                    times.count(k);
                    return true;
                case FOLD:
                case TOP:
                    return doFold(k, in);
                default:
                    return true;
            }
        }

        private boolean doFold(int k, Instr in) {
            if (m.vl > 0 && m.isMissing(in.d)) {
                return trap(2, k, 0);
            }
            int halvings = 0;
            for (int n = m.vl; n > 1; n = (n + 1) / 2) {
                halvings++;
            }
            halve(m.rowAt(in.d), m.vl, in.op == Op.TOP, x);
            m.scalars.keep(in.scalar, x);
            times.fold(k, in, m.vl, halvings);
            return true;
        }

        /** The first n elements by halving, added or by the greatest. */
        void halve(Row row, int n, boolean byMost, Num result) {
            work.copyFrom(row);
            for (int left = n; left > 1; left = (left + 1) / 2) {
                int h = (left + 1) / 2;
                for (int i = 0; i < left - h; i++) {
                    work.fetch(i, result);
                    work.fetch(i + h, y);
                    if (byMost) {
                        result.most(y);
                    } else {
                        result.plus(y);
                    }
                    work.keep(i, result);
                }
            }
            if (n > 0) {
                work.fetch(0, result);
            } else {
                result.setKind(byMost ? Num.MINUS_INFINITE : Num.ZERO);
            }
        }

        /** The first n elements one by one. */
        void addUp(Row row, int n, boolean backwards, Num result) {
            result.setKind(Num.ZERO);
            if (n > 0) {
                row.fetch(backwards ? n - 1 : 0, result);
            }
            for (int i = 1; i < n; i++) {
                row.fetch(backwards ? n - 1 - i : i, y);
                result.plus(y);
            }
        }

        private boolean doElements(int k, Instr in) {
            if (m.vl == 0) {
                return true;
            }
            if (lacksRow(in)) {
                return trap(2, k, 0);
            }
            packed = 0;
            for (int i = 0; i < m.vl; i++) {
                int place = 0;
                int bank = NONE;
                if (in.op.unit == MEMORY) {
                    if (in.op.does(READS_B) && !offsetFits(in, i)) {
                        return trap(3, k, i);
                    }
                    place = placeOf(in, i);
                    if (place < 0 || place >= WORDS) {
                        return trap(1, k, i);
                    }
                    bank = m.bankOf(place);
                }
                times.take(k, in, i, bank, m.busy);
                doElement(in, i, place);
            }
            times.finish(in, packed);
            return true;
        }

        private boolean lacksRow(Instr in) {
            return (in.op.does(READS_D) && m.isMissing(in.d))
                || (in.op.does(READS_A) && m.isMissing(in.a))
                || (in.op.does(READS_B) && m.isMissing(in.b));
        }

        private boolean offsetFits(Instr in, int i) {
            m.fetch(in.b, i, y);
            return y.isOffset();
        }

        private int placeOf(Instr in, int i) {
            if (in.op.does(READS_B)) {
                m.fetch(in.b, i, y);
                return in.at + (int) y.asLong();
            }
            return in.at + in.by * (base + i);
        }

        private void doElement(Instr in, int i, int place) {
            if (in.op.does(WRITES_MEMORY)) {
                m.fetch(in.d, i, x);
                m.memory.keep(place, x);
            } else if (in.op.does(WRITES_MASK)) {
                m.setBit(i, holds(in, i));
            } else if (in.op == Op.PACK) {
                packElement(in, i);
            } else {
                reckon(in, i, place);
                if (!in.masked || m.bit(i)) {
                    m.land(in.d, i, x);
                }
            }
        }

        private boolean holds(Instr in, int i) {
            m.fetch(in.d, i, x);
            if (in.op == Op.ODD) {
                return x.odd;
            }
            m.fetch(in.a, i, y);
            return in.op == Op.LESS ? x.isLess(y) : x.isSame(y);
        }

        private void packElement(Instr in, int i) {
            if (m.bit(i)) {
                m.fetch(in.a, i, x);
                m.land(in.d, packed, x);
                packed++;
            }
        }

        /** What comes to D[i], into x. */
        private void reckon(Instr in, int i, int place) {
            if (in.op.does(READS_A)) {
                m.fetch(in.a, i, x);
            }
            if (in.op.does(READS_B)) {
                m.fetch(in.b, i, y);
            }
            switch (in.op) {
                case IOTA:
                    x.set((double) i);
                    break;
                case FILL:
                    m.scalars.fetch(in.scalar, x);
                    break;
                case LOAD:
                case GATHER:
                    m.memory.fetch(place, x);
                    break;
                case ADD:
                    x.plus(y);
                    break;
                case SUB:
                    x.minus(y);
                    break;
                case MUL:
                    x.times(y);
                    break;
                case DIV:
                    x.over(y);
                    break;
                case REM:
                    binary.remainder(x, y);
                    break;
                case MIN:
                    x.least(y);
                    break;
                case MAX:
                    x.most(y);
                    break;
                case SINGLE:
                    x.toSingle();
                    break;
                case WHOLE:
                    x.toWhole();
                    break;
                default:
                    break;
            }
        }
    }
}
