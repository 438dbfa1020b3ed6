/** Promises 13 to 23: NUMBERS put and told, wholesale, ROWS dropped, rules. */
public final class NumbersTest {
    public static void main(String[] args) {
        places();
        values();
        stranges();
        wholesale();
        dropsAndRules();
        Check.end();
    }

    private static void places() {
        VectorPipes x = new VectorPipes();
        Check.told(x, "put(2, 15, 5, 1)", x.put(2, 15, 5, 1), 0, 5, 1);
        Check.told(x, "element(2, 15)", x.element(2, 15), 0, 5, 1);
        Check.told(x, "element(2, 14)", x.element(2, 14), 1, 0, 0);
        Check.fine(x, "many(5)", x.many(5), 4);
        Check.refused(x, "element(6, 0)", x.element(6, 0), 2);
        Check.refused(x, "element(-1, 0)", x.element(-1, 0), 2);
        Check.refused(x, "element(0, 16)", x.element(0, 16), 2);
        Check.refused(x, "element(0, -1)", x.element(0, -1), 2);
        Check.refused(x, "element(0, 0)", x.element(0, 0), 3);
        Check.refused(x, "put(6, 0, 1, 201)", x.put(6, 0, 1, 201), 2);
        Check.refused(x, "put(0, 16, 1, 0)", x.put(0, 16, 1, 0), 2);
        Check.refused(x, "put(0, -1, 1, 0)", x.put(0, -1, 1, 0), 2);
        Check.refused(x, "put(0, 0, 1, 201)", x.put(0, 0, 1, 201), 5);
        Check.refused(x, "put(0, 0, 2^53 + 1, 0)", x.put(0, 0, 9007199254740993L, 0), 5);
        Check.fine(x, "many(5) behind refusals", x.many(5), 4);
        Check.told(x, "give(3, -3, -1)", x.give(3, -3, -1), 0, -3, -1);
        Check.told(x, "scalar(3)", x.scalar(3), 0, -3, -1);
        Check.refused(x, "give(4, 1, 0)", x.give(4, 1, 0), 2);
        Check.refused(x, "give(-1, 1, 0)", x.give(-1, 1, 0), 2);
        Check.refused(x, "give(0, 1, -201)", x.give(0, 1, -201), 5);
        Check.refused(x, "scalar(4)", x.scalar(4), 2);
        Check.refused(x, "scalar(-1)", x.scalar(-1), 2);
        Check.told(x, "poke(63, 7, 0)", x.poke(63, 7, 0), 0, 7, 0);
        Check.told(x, "word(63)", x.word(63), 0, 7, 0);
        Check.refused(x, "poke(64, 1, 201)", x.poke(64, 1, 201), 2);
        Check.refused(x, "poke(-1, 1, 0)", x.poke(-1, 1, 0), 2);
        Check.refused(x, "poke(0, -(2^53) - 1, 0)", x.poke(0, -9007199254740993L, 0), 5);
        Check.refused(x, "word(-1)", x.word(-1), 2);
        Check.due("mantissa() behind refusals", x.mantissa(), 7);
    }

    private static void values() {
        long most = 1L << 53;
        long[] ms = {1, -1, 3, most, -most, most - 1, 1 - most, 0, 12, 1L << 52, 12345678901234L};
        for (long m : ms) {
            VectorPipes x = new VectorPipes();
            for (int e = -200; e <= 200; e += 25) {
                long mantissa = m;
                int exponent = m == 0 ? 0 : e;
                while (mantissa != 0 && mantissa % 2 == 0) {
                    mantissa /= 2;
                    exponent++;
                }
                Check.told(x, "poke(0, " + m + ", " + e + ")", x.poke(0, m, e), m == 0 ? 1 : 0, mantissa, exponent);
                Check.told(x, "word(0)", x.word(0), m == 0 ? 1 : 0, mantissa, exponent);
            }
        }
    }

    private static void stranges() {
        VectorPipes x = new VectorPipes();
        x.poke(5, 9, 0);
        int before = 0;
        for (int kind = 5; kind >= 1; kind--) {
            Check.fine(x, "strange(5, " + kind + ")", x.strange(5, kind), before);
            Check.due("mantissa() behind strange", x.mantissa(), kind == 5 ? 9 : 0);
            Check.told(x, "word(5)", x.word(5), kind, 0, 0);
            before = kind;
        }
        Check.refused(x, "strange(64, 0)", x.strange(64, 0), 2);
        Check.refused(x, "strange(-1, 1)", x.strange(-1, 1), 2);
        Check.refused(x, "strange(5, 0)", x.strange(5, 0), 5);
        Check.refused(x, "strange(5, 6)", x.strange(5, 6), 5);
        Check.told(x, "word(5)", x.word(5), 1, 0, 0);
    }

    private static void wholesale() {
        VectorPipes x = new VectorPipes();
        x.tray(0, 3, 60);
        x.write(0, 0, Long.MAX_VALUE);
        x.write(0, 1, Long.MIN_VALUE);
        x.write(0, 2, -5);
        x.write(0, 3, (1L << 53) + 1);
        Check.fine(x, "pokeAll(4, 0, 60)", x.pokeAll(4, 0, 60), 60);
        Check.told(x, "word(4)", x.word(4), 0, 1, 63);
        Check.told(x, "word(5)", x.word(5), 0, -1, 63);
        Check.told(x, "word(6)", x.word(6), 0, -5, 0);
        Check.told(x, "word(7)", x.word(7), 0, 1, 53);
        x.poke(32, 3, 0);
        Check.fine(x, "pokeAll(30, 0, 2)", x.pokeAll(30, 0, 2), 2);
        Check.told(x, "word(31)", x.word(31), 0, -1, 63);
        Check.told(x, "word(32) behind them", x.word(32), 0, 3, 0);
        wholesaleRefusals(x);
        x.strange(0, 5);
        x.strange(1, 3);
        x.strange(2, 4);
        x.poke(3, -7, -1);
        x.poke(4, 255, 0);
        x.tray(1, 3, 6);
        x.tray(2, 0, 6);
        x.write(1, 0, 66);
        x.write(1, 5, 77);
        Check.fine(x, "peekAll(0, 1, 5)", x.peekAll(0, 1, 5), 5);
        long[] longs = {0, Long.MAX_VALUE, Long.MIN_VALUE, -3, 255, 77};
        for (int k = 0; k < 6; k++) {
            Check.fine(x, "read(1, " + k + ")", x.read(1, k), longs[k]);
        }
        Check.fine(x, "peekAll(0, 2, 5)", x.peekAll(0, 2, 5), 5);
        long[] bytes = {0, -1, 0, -3, -1, 0};
        for (int k = 0; k < 6; k++) {
            Check.fine(x, "read(2, " + k + ")", x.read(2, k), bytes[k]);
        }
    }

    private static void wholesaleRefusals(VectorPipes x) {
        x.tray(1, 0, 5);
        x.tray(2, 0, 0);
        for (int turn = 0; turn < 2; turn++) {
            Check.refused(x, "tray 4", all(x, turn, 99, 4, 1), 1);
            Check.refused(x, "tray -1", all(x, turn, 99, -1, 1), 1);
            Check.refused(x, "word 64", all(x, turn, 64, 3, 1), 2);
            Check.refused(x, "word -1", all(x, turn, -1, 3, 1), 2);
            Check.refused(x, "words 62 to 66", all(x, turn, 62, 1, 5), 2);
            Check.refused(x, "a MISSING tray", all(x, turn, 0, 3, 61), 3);
            Check.refused(x, "six of five", all(x, turn, 0, 1, 6), 4);
            Check.refused(x, "61 of 60", all(x, turn, 0, 0, 61), 4);
            Check.refused(x, "65 words", all(x, turn, 0, 0, 65), 2);
            Check.refused(x, "very many", all(x, turn, 1, 0, Integer.MAX_VALUE), 2);
            Check.refused(x, "below 0", all(x, turn, 0, 1, -1), 5);
            Check.refused(x, "below 0 of no word", all(x, turn, 99, 1, -1), 5);
            Check.refused(x, "none of a MISSING tray", all(x, turn, 99, 3, 0), 3);
            Check.fine(x, "none", all(x, turn, 99, 1, 0), 0);
            Check.fine(x, "none of none", all(x, turn, -1, 2, 0), 0);
            Check.fine(x, "the last ones", all(x, turn, 59, 1, 5), 5);
        }
    }

    private static int all(VectorPipes x, int turn, int a, int tray, int many) {
        return turn == 0 ? x.pokeAll(a, tray, many) : x.peekAll(a, tray, many);
    }

    private static void dropsAndRules() {
        VectorPipes x = new VectorPipes();
        x.put(0, 1, 1, 0);
        Check.denied(x, "drop(6)", x.drop(6), 2);
        Check.denied(x, "drop(-1)", x.drop(-1), 2);
        Check.denied(x, "drop(1)", x.drop(1), 3);
        Check.fine(x, "drop(0)", x.drop(0));
        Check.denied(x, "drop(0) again", x.drop(0), 3);
        x.put(0, 0, 1, 0);
        Check.told(x, "element(0, 1) anew", x.element(0, 1), 1, 0, 0);
        int[][] ends = {{0, 16}, {1, 16}, {1, 12}, {0, 65535}};
        for (int what = 0; what < 4; what++) {
            for (int end = 0; end < 2; end++) {
                Check.fine(x, "rule(" + what + ", end)", x.rule(what, ends[what][end]));
                Check.fine(x, "many(" + what + ")", x.many(what), ends[what][end]);
            }
            Check.denied(x, "rule(" + what + ") below", x.rule(what, ends[what][0] - 1), 5);
            Check.denied(x, "rule(" + what + ") above", x.rule(what, ends[what][1] + 1), 5);
            Check.fine(x, "many(" + what + ") stays", x.many(what), ends[what][1]);
        }
        Check.denied(x, "rule(4, 1)", x.rule(4, 1), 5);
        Check.denied(x, "rule(-1, 1)", x.rule(-1, 1), 5);
    }
}
