/**
 * Promises 1 to 23 and 27 to 38 at their edges: the last value that is taken on either side, empty and full,
 * what goes round. What is refused is in RefusalsTest, runs are in TrapsTest and TimesTest.
 */
public final class EdgesTest {
    private static final long WIDE = 1L << 53;

    public static void main(String[] args) {
        newObject();
        tellers();
        trays();
        cuts();
        pours();
        feeds();
        programs();
        faults();
        manies();
        lastPlaces();
        mantissas();
        emptyRows();
        stranges();
        pokeAlls();
        peekAlls();
        drops();
        rules();
        sums();
        halvings();
        stalls();
        banksFor();
        worst();
        depends();
        swaps();
        marks();
        backs();
        Check.end();
    }

    /** Promise 1. */
    private static void newObject() {
        VectorPipes x = new VectorPipes();
        Check.due("status()", x.status(), 0);
        Check.due("mantissa()", x.mantissa(), 0);
        Check.due("exponent()", x.exponent(), 0);
        Check.due("fault(0)", x.fault(0), -1);
        Check.due("fault(1)", x.fault(1), -1);
        Check.refused(x, "program(1): an empty tape", x.program(1), 5);
        Check.due("feed", x.feed(0, 0, 0, 0, 0), 20);
        Check.refused(x, "run(): no PROGRAM", x.run(), 8);
        Check.fine(x, "mark(): no MARKS", x.mark(), 1);
        for (int t = 0; t < 4; t++) {
            Check.refused(x, "read(" + t + ", 0)", x.read(t, 0), 3);
        }
        for (int r = 0; r < 6; r++) {
            Check.denied(x, "drop(" + r + ")", x.drop(r), 3);
        }
        // BANKS 8, BUSY 4: the ninth element waits not, 0 and 8 do
        Check.fine(x, "stalls(0, 8, 2)", x.stalls(0, 8, 2), 3);
        Check.fine(x, "stalls(0, 7, 2)", x.stalls(0, 7, 2), 0);
    }

    /** Promises 2 to 4: which calls tell a NUMBER, and which do not. */
    private static void tellers() {
        VectorPipes x = new VectorPipes();
        x.put(0, 0, 3, 0);
        x.give(0, 5, 0);
        x.poke(0, 7, 0);
        Check.told(x, "element", x.element(0, 0), 0, 3, 0);
        Check.told(x, "scalar", x.scalar(0), 0, 5, 0);
        Check.told(x, "word", x.word(0), 0, 7, 0);
        Check.told(x, "put", x.put(0, 1, 9, 0), 0, 9, 0);
        Check.told(x, "give", x.give(1, 11, 0), 0, 11, 0);
        Check.told(x, "poke", x.poke(1, 13, 0), 0, 13, 0);
        Check.told(x, "sum", x.sum(0, 0), 0, 3, 2);
        x.tray(0, 0, 3);
        x.write(0, 0, 1);
        x.read(0, 0);
        x.strange(5, 4);
        x.pokeAll(6, 0, 3);
        x.peekAll(0, 0, 3);
        x.sums(0);
        Check.program(x, "fold sa va; count sb;");
        x.run();
        x.ran(0);
        x.time(0, 0);
        x.swapGain(0);
        x.bestSwap();
        x.mark();
        x.back();
        x.rule(0, 3);
        x.drop(0);
        x.element(0, 0);
        Check.due("mantissa(): told by none of these", x.mantissa(), 3);
        Check.due("exponent(): told by none of these", x.exponent(), 2);
        Check.told(x, "scalar: 0", x.scalar(3), 1, 0, 0);
    }

    /** Promise 5. */
    private static void trays() {
        for (int t = 0; t < 4; t++) {
            for (int sort = 0; sort < 4; sort++) {
                VectorPipes x = new VectorPipes();
                Check.fine(x, "tray of 60", x.tray(t, sort, 60));
                for (int place = 0; place < 60; place++) {
                    Check.fine(x, "read(" + t + ", " + place + ")", x.read(t, place), 0);
                    Check.fine(x, "write", x.write(t, place, place + 1));
                }
                Check.fine(x, "read(t, 59)", x.read(t, 59), 60);
                Check.refused(x, "read(t, 60)", x.read(t, 60), 4);
                Check.fine(x, "tray of 1", x.tray(t, sort, 1));
                Check.fine(x, "read(t, 0): all 0", x.read(t, 0), 0);
                Check.refused(x, "read(t, 1)", x.read(t, 1), 4);
                Check.fine(x, "tray of 60 again", x.tray(t, sort, 60));
                Check.fine(x, "read(t, 59): all 0", x.read(t, 59), 0);
                Check.fine(x, "tray of none", x.tray(t, sort, 0));
                Check.refused(x, "read(t, 0) of none", x.read(t, 0), 4);
                Check.denied(x, "write(t, 0) of none", x.write(t, 0, 1), 4);
                for (int other = 0; other < 4; other++) {
                    if (other != t) {
                        Check.refused(x, "read of another one", x.read(other, 0), 3);
                    }
                }
            }
        }
    }

    /** Promises 6 and 7: cut to 8, 16, 32, 64 bits with sign. */
    private static void cuts() {
        VectorPipes x = new VectorPipes();
        for (int sort = 0; sort < 4; sort++) {
            x.tray(sort, sort, 2);
            int bits = 8 << sort;
            long most = sort == 3 ? Long.MAX_VALUE : (1L << bits - 1) - 1;
            long[] written = {most, most + 1, -most - 1, -most - 2, 2 * most + 1, 2 * most + 2, -1, 0, 1};
            long[] due = {most, -most - 1, -most - 1, most, -1, 0, -1, 0, 1};
            for (int k = 0; k < written.length; k++) {
                Check.fine(x, "write(" + sort + ", 1, " + written[k] + ")", x.write(sort, 1, written[k]));
                Check.fine(x, "read(" + sort + ", 1) of " + written[k], x.read(sort, 1), due[k]);
            }
            Check.fine(x, "read(" + sort + ", 0)", x.read(sort, 0), 0);
        }
    }

    /** Promise 8. */
    private static void pours() {
        VectorPipes x = new VectorPipes();
        x.tray(0, 3, 60);
        x.tray(1, 3, 60);
        for (int k = 0; k < 60; k++) {
            x.write(0, k, k + 1);
        }
        Check.fine(x, "pour of all", x.pour(0, 0, 1, 0, 60));
        for (int k = 0; k < 60; k++) {
            Check.fine(x, "read(1, " + k + ")", x.read(1, k), k + 1);
        }
        Check.fine(x, "pour of the first to the last", x.pour(0, 0, 1, 59, 1));
        Check.fine(x, "read(1, 59)", x.read(1, 59), 1);
        Check.fine(x, "read(1, 58)", x.read(1, 58), 59);
        Check.fine(x, "pour of the last to the first", x.pour(0, 59, 1, 0, 1));
        Check.fine(x, "read(1, 0)", x.read(1, 0), 60);
        Check.fine(x, "read(1, 1)", x.read(1, 1), 2);
        Check.denied(x, "pour of 61", x.pour(0, 0, 1, 0, 61), 4);
        Check.fine(x, "pour of none", x.pour(0, 59, 1, 59, 0));
        Check.fine(x, "pour of all to the same", x.pour(0, 0, 0, 0, 60));
        Check.fine(x, "pour to the same, a place on", x.pour(0, 0, 0, 1, 59));
        Check.fine(x, "read(0, 0)", x.read(0, 0), 1);
        for (int k = 1; k < 60; k++) {
            Check.fine(x, "read(0, " + k + ") a place on", x.read(0, k), k);
        }
        Check.fine(x, "pour to the same, a place back", x.pour(0, 1, 0, 0, 59));
        for (int k = 0; k < 59; k++) {
            Check.fine(x, "read(0, " + k + ") a place back", x.read(0, k), k + 1);
        }
        Check.fine(x, "read(0, 59)", x.read(0, 59), 59);
        x.tray(2, 3, 0);
        Check.denied(x, "pour of one to none", x.pour(0, 0, 2, 0, 1), 4);
        Check.denied(x, "pour of one from none", x.pour(2, 0, 0, 0, 1), 4);
        x.tray(2, 2, 0);
        Check.denied(x, "pour of unlike sorts, none", x.pour(0, 0, 2, 0, 0), 11);
    }

    /** Promise 9. */
    private static void feeds() {
        VectorPipes x = new VectorPipes();
        for (int k = 1; k <= 44; k++) {
            Check.due("feed " + k, x.feed(0x20202020, 0x20202020, 0x20202020, 0x20202020, 0x20202020), 20 * k);
        }
        // the last twenty: highest bytes first, "flip;stop;flip;stop;"
        Check.due("feed 45", x.feed(0x666c6970, 0x3b73746f, 0x703b666c, 0x69703b73, 0x746f703b), 900);
        Check.due("feed 46", x.feed(0x21212121, 0x21212121, 0x21212121, 0x21212121, 0x21212121), -1);
        Check.due("feed 47", x.feed(0x21212121, 0x21212121, 0x21212121, 0x21212121, 0x21212121), -1);
        Check.refused(x, "program(901)", x.program(901), 5);
        Check.fine(x, "program(900): the tape is as it was", x.program(900), 4);
        Check.due("feed behind it", x.feed(0, 0, 0, 0, 0), 20);
        // each byte of an int, its highest bit too
        for (int at = 0; at < 20; at++) {
            int[] ints = {0x20202020, 0x20202020, 0x20202020, 0x20202020, 0x20202020};
            ints[at / 4] = ints[at / 4] & ~(255 << 24 - 8 * (at % 4)) | 0xe9 << 24 - 8 * (at % 4);
            x.program(0);
            x.feed(ints[0], ints[1], ints[2], ints[3], ints[4]);
            Check.refused(x, "program(20)", x.program(20), 10);
            Check.due("fault(1) of byte " + at, x.fault(1), at);
        }
    }

    /** Promise 10. */
    private static void programs() {
        VectorPipes x = new VectorPipes();
        Check.fine(x, "program(0) of an empty tape", x.program(0), 0);
        Check.feed(x, "flip;stop;flip;stop;");
        Check.refused(x, "program(21)", x.program(21), 5);
        Check.fine(x, "program(20): the tape stayed", x.program(20), 4);
        Check.refused(x, "program(1): the tape is empty", x.program(1), 5);
        Check.feed(x, "flip;stop;flip;stop;");
        Check.fine(x, "program(5)", x.program(5), 1);
        Check.refused(x, "program(1): nothing is left of it", x.program(1), 5);
        Check.due("feed: from the beginning", x.feed(0x666c6970, 0x3b202020, 0x20202020, 0x20202020, 0x20202020), 20);
        Check.fine(x, "program(20)", x.program(20), 1);
        Check.feed(x, "flip stop;");
        Check.refused(x, "program(10)", x.program(10), 10);
        Check.fine(x, "many(4): the old one", x.many(4), 1);
        Check.refused(x, "program(1): the tape is empty behind a FAULT", x.program(1), 5);
        Check.fine(x, "run(): the old one", x.run(), 1);
        Check.fine(x, "program(0): an empty one in its place", x.program(0), 0);
        Check.fine(x, "many(4): none", x.many(4), 0);
        Check.refused(x, "run(): none", x.run(), 8);
    }

    /** Promise 11. */
    private static void faults() {
        VectorPipes x = new VectorPipes();
        x.program(1);
        Check.due("fault(0) behind a 5", x.fault(0), -1);
        Check.due("fault(1) behind a 5", x.fault(1), -1);
        x.program(0);
        Check.due("fault(0) without one", x.fault(0), 0);
        Check.due("fault(1) without one", x.fault(1), -1);
        Check.program(x, "flip;!");
        Check.due("fault(0)", x.fault(0), 1);
        Check.due("fault(1)", x.fault(1), 5);
        x.program(1);
        Check.due("fault(0) behind a FAULT and a 5", x.fault(0), 1);
        Check.due("fault(1) behind a FAULT and a 5", x.fault(1), 5);
        for (int what : new int[] {-1, 2, 3, Integer.MIN_VALUE, Integer.MAX_VALUE}) {
            Check.due("fault(" + what + ")", x.fault(what), -1);
        }
        Check.program(x, "!");
        Check.due("fault(1) at the first byte", x.fault(1), 0);
        Check.program(x, "flip;");
        Check.due("fault(0) of what was taken", x.fault(0), 0);
        Check.due("fault(1) of what was taken", x.fault(1), -1);
    }

    /** Promise 12. */
    private static void manies() {
        VectorPipes x = new VectorPipes();
        for (int bit = 0; bit < 16; bit++) {
            x.rule(3, 1 << bit);
            Check.fine(x, "many(3) of bit " + bit, x.many(3), 1 << bit);
        }
        for (int row = 0; row < 6; row++) {
            x.put(row, 0, 0, 0);
            Check.fine(x, "many(5) with row " + row, x.many(5), (2 << row) - 1);
        }
        for (int n = 0; n <= 30; n++) {
            x.program(0);
            Check.fine(x, "program of " + n, Check.program(x, "flip;".repeat(n)), n);
            Check.fine(x, "many(4)", x.many(4), n);
        }
        x.rule(3, 0);
        x.rule(0, 0);
        Check.fine(x, "many(0)", x.many(0), 0);
        Check.program(x, "setvl 16; flip;");
        x.run();
        Check.fine(x, "many(0) behind a run", x.many(0), 16);
        Check.fine(x, "many(3) behind a run", x.many(3), 65535);
    }

    /** Promises 13 to 18: the first and the last of each. */
    private static void lastPlaces() {
        VectorPipes x = new VectorPipes();
        for (int row = 0; row < 6; row++) {
            for (int i = 0; i < 16; i++) {
                Check.due("put", x.put(row, i, 32 * i + row + 1, 5), 0);
            }
        }
        for (int row = 0; row < 6; row++) {
            for (int i = 0; i < 16; i++) {
                int n = 32 * i + row + 1;
                Check.told(x, "element(" + row + ", " + i + ")", x.element(row, i), 0, odd(n), zeros(n) + 5);
            }
        }
        x = new VectorPipes();
        for (int s = 0; s < 4; s++) {
            x.give(s, 2 * s + 1, s);
        }
        for (int a = 0; a < 64; a++) {
            x.poke(a, 2 * a + 1, -a);
        }
        for (int s = 0; s < 4; s++) {
            Check.told(x, "scalar(" + s + ")", x.scalar(s), 0, 2 * s + 1, s);
        }
        for (int a = 0; a < 64; a++) {
            Check.told(x, "word(" + a + ")", x.word(a), 0, 2 * a + 1, -a);
        }
    }

    private static int zeros(int n) {
        return Integer.numberOfTrailingZeros(n);
    }

    private static int odd(int n) {
        return n >> zeros(n);
    }

    /** Promises 16 to 18: m from -(2^53) to 2^53, e from -200 to 200, exactly. */
    private static void mantissas() {
        long[] ms = {WIDE, -WIDE, WIDE - 1, 1 - WIDE, 1, -1, 0};
        long[] mantissas = {1, -1, WIDE - 1, 1 - WIDE, 1, -1, 0};
        for (int e = -200; e <= 200; e += 400) {
            for (int k = 0; k < ms.length; k++) {
                int kind = ms[k] == 0 ? 1 : 0;
                int exponent = kind == 1 ? 0 : k < 2 ? e + 53 : e;
                VectorPipes x = new VectorPipes();
                String args = ms[k] + ", " + e + ")";
                Check.told(x, "put(5, 15, " + args, x.put(5, 15, ms[k], e), kind, mantissas[k], exponent);
                Check.told(x, "give(3, " + args, x.give(3, ms[k], e), kind, mantissas[k], exponent);
                Check.told(x, "poke(63, " + args, x.poke(63, ms[k], e), kind, mantissas[k], exponent);
                Check.due("status()", x.status(), 0);
                x.word(0);
                Check.told(x, "element(5, 15) of " + args, x.element(5, 15), kind, mantissas[k], exponent);
                Check.told(x, "scalar(3) of " + args, x.scalar(3), kind, mantissas[k], exponent);
                Check.told(x, "word(63) of " + args, x.word(63), kind, mantissas[k], exponent);
            }
        }
        VectorPipes x = new VectorPipes();
        for (int power = 0; power <= 52; power++) {
            Check.told(x, "poke(0, 2^" + power + ", 0)", x.poke(0, 1L << power, 0), 0, 1, power);
            Check.told(x, "poke(0, -3 times 2^..)", x.poke(0, -(3L << power - 1 & WIDE - 1), 1), power == 0 ? 1 : 0,
                power == 0 ? 0 : -3, power == 0 ? 0 : power);
        }
    }

    /** Promise 16: a MISSING ROW is 16 zeros ahead of that, whatever it was. */
    private static void emptyRows() {
        for (int i = 0; i < 16; i++) {
            VectorPipes x = new VectorPipes();
            for (int k = 0; k < 16; k++) {
                x.strange(k, k % 4 + 2);
            }
            Check.program(x, "load vf at 0 by 1;");
            x.run();
            Check.fine(x, "element(5, 3) is no number", x.element(5, 3), 5);
            x.drop(5);
            Check.fine(x, "many(5)", x.many(5), 0);
            x.put(5, i, 1, 0);
            for (int k = 0; k < 16; k++) {
                Check.fine(x, "element(5, " + k + ") anew", x.element(5, k), k == i ? 0 : 1);
            }
            // 0 is an element as well
            x.put(4, i, 0, 0);
            Check.fine(x, "many(5) with a row of zeros", x.many(5), 48);
        }
    }

    /** Promise 19: from every KIND to every other one. */
    private static void stranges() {
        VectorPipes x = new VectorPipes();
        for (int from = 0; from <= 5; from++) {
            for (int kind = 1; kind <= 5; kind++) {
                for (int a = 0; a < 64; a += 63) {
                    x.poke(a, 3, 0);
                    if (from > 0) {
                        x.strange(a, from);
                    }
                    Check.fine(x, "strange(" + a + ", " + kind + ") of " + from, x.strange(a, kind), from);
                    Check.told(x, "word(" + a + ")", x.word(a), kind, 0, 0);
                }
            }
        }
        Check.fine(x, "word(1)", x.word(1), 1);
        Check.fine(x, "word(62)", x.word(62), 1);
    }

    /** Promise 20. */
    private static void pokeAlls() {
        VectorPipes x = new VectorPipes();
        x.tray(0, 3, 60);
        for (int k = 0; k < 60; k++) {
            x.write(0, k, -k - 1);
        }
        Check.fine(x, "pokeAll(4, 0, 60)", x.pokeAll(4, 0, 60), 60);
        Check.whole(x, "word(3)", x.word(3), 0);
        for (int k = 0; k < 60; k++) {
            Check.whole(x, "word(4 + " + k + ")", x.word(4 + k), -k - 1);
        }
        Check.refused(x, "pokeAll(5, 0, 60)", x.pokeAll(5, 0, 60), 2);
        Check.fine(x, "pokeAll(0, 0, 60)", x.pokeAll(0, 0, 60), 60);
        Check.whole(x, "word(59)", x.word(59), -60);
        Check.whole(x, "word(60) stays", x.word(60), -57);
        Check.fine(x, "pokeAll(63, 0, 1)", x.pokeAll(63, 0, 1), 1);
        Check.whole(x, "word(63)", x.word(63), -1);
        Check.whole(x, "word(62) stays", x.word(62), -59);
        for (int a : new int[] {-1, 0, 64, Integer.MIN_VALUE, Integer.MAX_VALUE}) {
            Check.fine(x, "pokeAll(" + a + ", 0, 0)", x.pokeAll(a, 0, 0), 0);
        }
        x.tray(1, 0, 0);
        Check.fine(x, "pokeAll of none of none", x.pokeAll(0, 1, 0), 0);
        Check.refused(x, "pokeAll of one of none", x.pokeAll(0, 1, 1), 4);
        Check.whole(x, "word(0) stays", x.word(0), -1);
        // as doubles: of 64 bits rounded to even
        long[] longs = {WIDE + 1, WIDE + 3, -WIDE - 1, Long.MAX_VALUE, Long.MIN_VALUE, 0, Long.MAX_VALUE - 512};
        long[] mantissas = {1, (WIDE + 4) / 4, -1, 1, -1, 0, WIDE - 1};
        int[] exponents = {53, 2, 53, 63, 63, 0, 10};
        for (int k = 0; k < longs.length; k++) {
            x.write(0, 0, longs[k]);
            x.pokeAll(9, 0, 1);
            Check.told(x, "pokeAll of " + longs[k], x.word(9), longs[k] == 0 ? 1 : 0, mantissas[k], exponents[k]);
        }
    }

    /** Promise 21. */
    private static void peekAlls() {
        VectorPipes x = new VectorPipes();
        x.tray(0, 3, 60);
        for (int a = 0; a < 64; a++) {
            x.poke(a, a + 1, 0);
        }
        Check.fine(x, "peekAll(4, 0, 60)", x.peekAll(4, 0, 60), 60);
        Check.fine(x, "read(0, 0)", x.read(0, 0), 5);
        Check.fine(x, "read(0, 59)", x.read(0, 59), 64);
        Check.refused(x, "peekAll(5, 0, 60)", x.peekAll(5, 0, 60), 2);
        Check.fine(x, "peekAll(63, 0, 1)", x.peekAll(63, 0, 1), 1);
        Check.fine(x, "read(0, 0) of the last WORD", x.read(0, 0), 64);
        Check.fine(x, "read(0, 1) stays", x.read(0, 1), 6);
        for (int a : new int[] {-1, 0, 64, Integer.MIN_VALUE, Integer.MAX_VALUE}) {
            Check.fine(x, "peekAll(" + a + ", 0, 0)", x.peekAll(a, 0, 0), 0);
        }
        Check.fine(x, "read(0, 0) stays", x.read(0, 0), 64);
        // cut to longs: towards 0, no number is 0, at most the greatest, at least the least one
        long[] ms = {3, -3, 1, -1, 1, -1, 1, -1, WIDE - 1, 1 - WIDE, 1, 255, -129};
        int[] es = {-1, -1, -1, -200, 63, 63, 62, 200, 10, 10, 200, 0, 0};
        long[] due = {1, -1, 0, 0, Long.MAX_VALUE, Long.MIN_VALUE, 1L << 62, Long.MIN_VALUE, WIDE - 1 << 10,
            -(WIDE - 1 << 10), Long.MAX_VALUE, 255, -129};
        for (int sort = 0; sort < 4; sort++) {
            x.tray(1, sort, 1);
            for (int k = 0; k < ms.length; k++) {
                x.poke(7, ms[k], es[k]);
                Check.fine(x, "peekAll", x.peekAll(7, 1, 1), 1);
                Check.fine(x, "read of " + ms[k] + " e " + es[k], x.read(1, 0), cut(due[k], sort));
            }
            long[] kinds = {0, 0, 0, Long.MAX_VALUE, Long.MIN_VALUE, 0};
            for (int kind = 1; kind <= 5; kind++) {
                x.strange(7, kind);
                x.write(1, 0, 1);
                x.peekAll(7, 1, 1);
                Check.fine(x, "read of KIND " + kind, x.read(1, 0), cut(kinds[kind], sort));
            }
        }
    }

    private static long cut(long v, int sort) {
        return sort == 0 ? (byte) v : sort == 1 ? (short) v : sort == 2 ? (int) v : v;
    }

    /** Promise 22. */
    private static void drops() {
        for (int row = 0; row < 6; row++) {
            VectorPipes x = new VectorPipes();
            for (int r = 0; r < 6; r++) {
                x.put(r, 15, r + 1, 0);
            }
            Check.fine(x, "drop(" + row + ")", x.drop(row));
            Check.fine(x, "many(5)", x.many(5), 63 - (1 << row));
            Check.denied(x, "drop(" + row + ") again", x.drop(row), 3);
            Check.refused(x, "element(" + row + ", 15)", x.element(row, 15), 3);
            for (int r = 0; r < 6; r++) {
                if (r != row) {
                    Check.whole(x, "element(" + r + ", 15)", x.element(r, 15), r + 1);
                }
            }
        }
    }

    /** Promise 23: every value there is. */
    private static void rules() {
        VectorPipes x = new VectorPipes();
        int[][] ends = {{0, 16}, {1, 16}, {1, 12}, {0, 65535}};
        for (int what = 0; what < 4; what++) {
            int step = what == 3 ? 4369 : 1;
            for (int much = ends[what][0]; much <= ends[what][1]; much += step) {
                Check.fine(x, "rule(" + what + ", " + much + ")", x.rule(what, much));
                Check.fine(x, "many(" + what + ")", x.many(what), much);
            }
        }
        Check.fine(x, "many(0)", x.many(0), 16);
        Check.fine(x, "many(1)", x.many(1), 16);
        Check.fine(x, "many(2)", x.many(2), 12);
        Check.fine(x, "many(3)", x.many(3), 65535);
    }

    /** Promises 27 and 28. */
    private static void sums() {
        VectorPipes x = new VectorPipes();
        for (int i = 0; i < 16; i++) {
            x.put(5, i, i + 1, 0);
        }
        for (int vl = 0; vl <= 16; vl++) {
            x.rule(0, vl);
            for (int what = 0; what < 3; what++) {
                Check.whole(x, "sum(5, " + what + ") of " + vl, x.sum(5, what), vl * (vl + 1) / 2);
                Check.due("status()", x.status(), 0);
            }
            Check.fine(x, "sums(5) of " + vl, x.sums(5), 1);
        }
        x.rule(0, 0);
        Check.refused(x, "sum(4, 0) of VL 0", x.sum(4, 0), 3);
        Check.refused(x, "sum(5, 3) of VL 0", x.sum(5, 3), 5);
        signedZeros(x);
        unlikeEnds();
    }

    /** 0 and minus 0 are alike, though they are told apart; no number is alike to no number. */
    private static void signedZeros(VectorPipes x) {
        int[][] kinds = {{2, 2, 2}, {1, 2, 1}, {2, 1, 1}, {3, 3, 3}, {4, 4, 4}, {3, 4, 5}, {5, 3, 5}, {3, 5, 5}, {5, 5, 5}};
        Check.program(x, "load va at 0 by 1;");
        x.rule(0, 2);
        for (int[] k : kinds) {
            x.strange(0, k[0]);
            x.strange(1, k[1]);
            x.run();
            for (int what = 0; what < 3; what++) {
                Check.told(x, "sum of " + k[0] + ", " + k[1], x.sum(0, what), k[2], 0, 0);
            }
            Check.fine(x, "sums of " + k[0] + ", " + k[1], x.sums(0), 1);
        }
        x.rule(0, 1);
        x.strange(0, 5);
        x.run();
        for (int what = 0; what < 3; what++) {
            Check.told(x, "sum of no number alone", x.sum(0, what), 5, 0, 0);
        }
    }

    /** One of the three is unlike the two others, each of them once. */
    private static void unlikeEnds() {
        // {2^53, 1, 1}: forwards 2^53, backwards 2^53 + 2, halving (2^53 + 1) + 1: 2^53
        row(2, WIDE, 1, 1);
        // {1, 1, 2^53}: forwards 2^53 + 2, backwards 2^53, halving (1 + 2^53) + 1: 2^53
        row(2, 1, 1, WIDE);
        // {1, 2^53, 1}: forwards 2^53, backwards 2^53, halving (1 + 1) + 2^53: 2^53 + 2
        row(2, 1, WIDE, 1);
        row(1, 1, 1, 1);
        row(1, WIDE, 0, 1);
        // {2^53, 1, 1, -(2^53)}: 0, 2, 1
        row(3, WIDE, 1, 1, -WIDE);
    }

    private static void row(int unlike, long... values) {
        VectorPipes x = new VectorPipes();
        for (int i = 0; i < values.length; i++) {
            x.put(0, i, values[i], 0);
        }
        x.rule(0, values.length);
        Check.fine(x, "sums", x.sums(0), unlike);
    }

    /** Promises 29 and 30: n = 1 to 16, the last element and element 1. */
    private static void halvings() {
        VectorPipes x = new VectorPipes();
        int[] lastOne = {0, 0, 1, 1, 2, 2, 3, 3, 4, 4, 5, 5, 6, 6, 7, 7};
        int[] oneIn = {0, 0, 1, 1, 2, 2, 2, 2, 3, 3, 3, 3, 3, 3, 3, 3};
        for (int n = 2; n <= 16; n++) {
            // n = 2: 1 comes to 0; n = 3: 2 to 0; n = 4: 3 to 1; n = 5: 4 to 1 ..
            Check.fine(x, "roundOf(" + n + ", last)", x.roundOf(n, n - 1), 0);
            Check.fine(x, "partnerOf(" + n + ", last)", x.partnerOf(n, n - 1), lastOne[n - 1] == 0 ? 0 : n / 2 - 1);
            Check.fine(x, "roundOf(" + n + ", 1)", x.roundOf(n, 1), oneIn[n - 1]);
            Check.fine(x, "partnerOf(" + n + ", 1)", x.partnerOf(n, 1), 0);
        }
        int[] rounds = {3, 2, 2, 1, 1, 1, 1, 0, 0, 0, 0, 0, 0, 0, 0};
        int[] partners = {0, 0, 1, 0, 1, 2, 3, 0, 1, 2, 3, 4, 5, 6, 7};
        for (int i = 1; i < 16; i++) {
            Check.fine(x, "roundOf(16, " + i + ")", x.roundOf(16, i), rounds[i - 1]);
            Check.fine(x, "partnerOf(16, " + i + ")", x.partnerOf(16, i), partners[i - 1]);
        }
        // nine: 5 stay, 5 to 8 come to 0 to 3; then 3, 4 to 0, 1; then 2 to 0; then 1 to 0
        int[] ofNine = {3, 2, 1, 1, 0, 0, 0, 0};
        int[] toNine = {0, 0, 0, 1, 0, 1, 2, 3};
        for (int i = 1; i < 9; i++) {
            Check.fine(x, "roundOf(9, " + i + ")", x.roundOf(9, i), ofNine[i - 1]);
            Check.fine(x, "partnerOf(9, " + i + ")", x.partnerOf(9, i), toNine[i - 1]);
        }
    }

    /** Promise 31: n 0 to 64, by 0 to 64, a 0 to 63, round the MEMORY. */
    private static void stalls() {
        VectorPipes x = new VectorPipes();
        for (int a = 0; a < 64; a += 63) {
            for (int by = 0; by <= 64; by += 64) {
                Check.fine(x, "stalls of none", x.stalls(a, by, 0), 0);
                Check.fine(x, "stalls of one", x.stalls(a, by, 1), 0);
                Check.fine(x, "stalls of two", x.stalls(a, by, 2), 3);
                Check.fine(x, "stalls of 64", x.stalls(a, by, 64), 189);
            }
            Check.fine(x, "stalls(" + a + ", 1, 64)", x.stalls(a, 1, 64), 0);
            Check.fine(x, "stalls(" + a + ", 63, 64)", x.stalls(a, 63, 64), 0);
        }
        // with 3 BANKS WORD 63 is in BANK 0, as is WORD 0 behind it
        x.rule(1, 3);
        Check.fine(x, "stalls(63, 1, 2)", x.stalls(63, 1, 2), 3);
        Check.fine(x, "stalls(62, 1, 2)", x.stalls(62, 1, 2), 0);
        Check.fine(x, "stalls(1, 63, 2)", x.stalls(1, 63, 2), 0);
        Check.fine(x, "stalls(0, 63, 2)", x.stalls(0, 63, 2), 3);
        x.rule(1, 1);
        x.rule(2, 12);
        Check.fine(x, "stalls(0, 1, 64) of one BANK", x.stalls(0, 1, 64), 63 * 11);
        x.rule(2, 1);
        Check.fine(x, "stalls(0, 1, 64) of BUSY 1", x.stalls(0, 1, 64), 0);
        // VL and what is in the ROWS do not matter
        x.rule(2, 2);
        x.rule(0, 0);
        Check.fine(x, "stalls(0, 1, 64) of VL 0", x.stalls(0, 1, 64), 63);
    }

    /** Promise 32: 1 to 16 BANKS, or none. */
    private static void banksFor() {
        VectorPipes x = new VectorPipes();
        x.rule(2, 1);
        Check.fine(x, "banksFor(0, 0, 64) of BUSY 1", x.banksFor(0, 0, 64), 1);
        x.rule(2, 12);
        for (int by = 0; by <= 64; by += 64) {
            Check.fine(x, "banksFor of none", x.banksFor(63, by, 0), 1);
            Check.fine(x, "banksFor of one", x.banksFor(63, by, 1), 1);
            Check.refused(x, "banksFor of two", x.banksFor(63, by, 2), 8);
        }
        Check.fine(x, "banksFor(0, 1, 2)", x.banksFor(0, 1, 2), 2);
        Check.fine(x, "banksFor(0, 1, 12)", x.banksFor(0, 1, 12), 12);
        Check.fine(x, "banksFor(0, 1, 64)", x.banksFor(0, 1, 64), 12);
        // WORD 63 and then WORD 3 are in the same of 12 BANKS, four elements apart
        Check.fine(x, "banksFor(63, 1, 64)", x.banksFor(63, 1, 64), 13);
        Check.fine(x, "banksFor(0, 16, 2)", x.banksFor(0, 16, 2), 3);
        Check.fine(x, "banksFor(0, 7, 64)", x.banksFor(0, 7, 64), 16);
        // 0, 32, 0: no BANKS help
        Check.refused(x, "banksFor(0, 32, 3)", x.banksFor(0, 32, 3), 8);
        Check.fine(x, "banksFor(0, 32, 2)", x.banksFor(0, 32, 2), 3);
        x.rule(1, 1);
        Check.fine(x, "banksFor: BANKS do not matter", x.banksFor(0, 1, 12), 12);
        Check.fine(x, "many(1): they stay", x.many(1), 1);
    }

    /** Promise 33: the strides 1 to 16, of several the least. */
    private static void worst() {
        VectorPipes x = new VectorPipes();
        Check.fine(x, "worst(0, 0)", x.worst(0, 0), 1);
        Check.fine(x, "worst(63, 1)", x.worst(63, 1), 1);
        Check.fine(x, "worst(0, 2) of 8 BANKS", x.worst(0, 2), 8);
        Check.fine(x, "worst(63, 64) of 8 BANKS", x.worst(63, 64), 8);
        for (int banks = 1; banks <= 16; banks++) {
            x.rule(1, banks);
            Check.fine(x, "worst(0, 2) of " + banks + " BANKS", x.worst(0, 2), banks);
            Check.fine(x, "many(1)", x.many(1), banks);
        }
        Check.fine(x, "worst(63, 64) of 16 BANKS", x.worst(63, 64), 16);
        // of 15 BANKS WORDS 63 and 3 are in the same
        x.rule(1, 15);
        Check.fine(x, "worst(63, 2) of 15 BANKS", x.worst(63, 2), 4);
        x.rule(2, 1);
        Check.fine(x, "worst(63, 64) of BUSY 1", x.worst(63, 64), 1);
    }

    /** Promise 34: all pairs of which the first is ahead, the first and the last INSTRUCTION too. */
    private static void depends() {
        VectorPipes x = new VectorPipes();
        Check.program(x, "iota va;" + "setvl 3;".repeat(28) + "copy vb va;");
        Check.fine(x, "depends(0, 29)", x.depends(0, 29), 1);
        Check.fine(x, "depends(0, 1): VL", x.depends(0, 1), 2);
        Check.fine(x, "depends(28, 29): VL", x.depends(28, 29), 1);
        Check.refused(x, "depends(29, 29)", x.depends(29, 29), 9);
        Check.refused(x, "depends(29, 28)", x.depends(29, 28), 9);
        Check.refused(x, "depends(29, 30)", x.depends(29, 30), 2);
        // scalars sa to sd and rows va to vf each for itself, the MASK, the MEMORY, VL no one of them
        String[] alone = {"fill va sa", "fill vb sb", "fill vc sc", "fill vd sd", "less ve vf", "store ve at 0 by 1"};
        for (int j = 0; j < alone.length; j++) {
            for (int k = j + 1; k < alone.length; k++) {
                Check.program(x, alone[j] + ";" + alone[k] + ";");
                Check.fine(x, "depends of " + alone[j] + ", " + alone[k], x.depends(0, 1), 0);
                Check.program(x, alone[k] + ";" + alone[j] + ";");
                Check.fine(x, "depends of " + alone[k] + ", " + alone[j], x.depends(0, 1), 0);
            }
        }
        for (int s = 0; s < 4; s++) {
            for (int t = 0; t < 4; t++) {
                Check.program(x, "count s" + (char) ('a' + s) + "; fill va s" + (char) ('a' + t) + ";");
                Check.fine(x, "depends of count " + s + ", fill " + t, x.depends(0, 1), s == t ? 1 : 0);
            }
        }
        for (int r = 0; r < 6; r++) {
            for (int t = 0; t < 6; t++) {
                Check.program(x, "iota v" + (char) ('a' + r) + "; top sa v" + (char) ('a' + t) + ";");
                Check.fine(x, "depends of iota " + r + ", top " + t, x.depends(0, 1), r == t ? 1 : 0);
            }
        }
        steering(x);
    }

    /** strip, end, stop: 7 with all; end is no INSTRUCTION. */
    private static void steering(VectorPipes x) {
        Check.program(x, "count sa; strip 1; count sb; end; stop; count sc;");
        int[][] due = {{0, 7, 0, 7, 0}, {0, 0, 7, 7, 7}, {0, 0, 0, 7, 0}, {0, 0, 0, 0, 7}};
        for (int j = 0; j < 4; j++) {
            for (int k = j + 1; k < 5; k++) {
                Check.fine(x, "depends(" + j + ", " + k + ") of a strip", x.depends(j, k), due[j][k]);
            }
        }
        Check.refused(x, "depends(4, 5)", x.depends(4, 5), 2);
    }

    /** Promises 35 and 36: the first and the last pair, an end between two, either TRAPS, by 0, by -1. */
    private static void swaps() {
        VectorPipes x = new VectorPipes();
        x.put(0, 0, 1, 0);
        x.rule(0, 1);
        Check.program(x, "fold sa va;");
        Check.refused(x, "swapGain(0) of one", x.swapGain(0), 2);
        Check.refused(x, "bestSwap() of one", x.bestSwap(), 8);
        // mul 0, READY 4; with fold ahead of it mul is at 1, READY 5
        Check.program(x, "fold sa va; mul vb va va;");
        Check.fine(x, "swapGain(0) of two", x.swapGain(0), 1);
        Check.refused(x, "swapGain(1) of two", x.swapGain(1), 2);
        Check.fine(x, "bestSwap() of two: the first", x.bestSwap(), 0);
        Check.program(x, "mul vb va va; fold sa va;");
        Check.fine(x, "swapGain(0): -1", x.swapGain(0), -1);
        Check.refused(x, "bestSwap(): below 0", x.bestSwap(), 8);
        Check.program(x, "fill vb sa; fill vc sa;");
        Check.fine(x, "swapGain(0): 0", x.swapGain(0), 0);
        Check.refused(x, "bestSwap(): 0 is not above 0", x.bestSwap(), 8);
        // 28 setvl from 0 on, fold 28, mul 29, READY 33
        Check.program(x, "setvl 1;".repeat(28) + "fold sa va; mul vb va va;");
        Check.fine(x, "swapGain(28) of thirty", x.swapGain(28), 1);
        Check.refused(x, "swapGain(29) of thirty", x.swapGain(29), 2);
        Check.fine(x, "bestSwap() of thirty: the last pair", x.bestSwap(), 28);
        endBetween();
        trapping();
    }

    private static void endBetween() {
        VectorPipes x = new VectorPipes();
        x.put(0, 0, 1, 0);
        x.rule(0, 1);
        Check.program(x, "strip 1; fold sa va; end; mul vb va va;");
        Check.fine(x, "depends(1, 2)", x.depends(1, 2), 0);
        Check.refused(x, "swapGain(1): an end is between", x.swapGain(1), 9);
        Check.refused(x, "bestSwap(): an end is between", x.bestSwap(), 8);
        // within a strip and behind an end there is none between
        Check.program(x, "strip 1; fold sa va; mul vb va va; end;");
        Check.fine(x, "swapGain(1) in a strip", x.swapGain(1), 1);
        Check.fine(x, "bestSwap() in a strip", x.bestSwap(), 1);
        Check.program(x, "strip 0; end; fold sa va; mul vb va va;");
        Check.fine(x, "swapGain(1) behind an end", x.swapGain(1), 1);
        Check.program(x, "strip 0; fold sa vf; end; fold sa va; mul vb va va;");
        Check.refused(x, "swapGain(1): an end, and sa", x.swapGain(1), 9);
        Check.fine(x, "swapGain(2) behind an end", x.swapGain(2), 1);
    }

    /** Either TRAPS: from all as it is now, the other way round alone, or behind both. */
    private static void trapping() {
        VectorPipes x = new VectorPipes();
        x.rule(0, 1);
        Check.program(x, "count sa; flip; copy va vf;");
        Check.refused(x, "swapGain(0) with a TRAP behind it", x.swapGain(0), 9);
        Check.program(x, "count sa; setvl 1; iota vb; fill vc sb; copy va vf;");
        Check.refused(x, "swapGain(2) with a TRAP behind it", x.swapGain(2), 12);
        Check.refused(x, "bestSwap() with a TRAP", x.bestSwap(), 8);
        Check.refused(x, "ran(0): no run was", x.ran(0), 8);
        Check.fine(x, "many(5): nothing changes", x.many(5), 0);
        x.put(5, 0, 1, 0);
        Check.fine(x, "swapGain(2) without the TRAP", x.swapGain(2), 0);
        // a stop ahead of what would TRAP: swapping is 9, behind it 0
        Check.program(x, "iota vb; fill vc sb; stop; copy va ve;");
        Check.fine(x, "swapGain(0) ahead of a stop", x.swapGain(0), 0);
        Check.refused(x, "swapGain(2) over a stop", x.swapGain(2), 9);
        x.drop(5);
        x.rule(0, 0);
        Check.program(x, "copy va vf; copy vb vf;");
        Check.fine(x, "swapGain(0) of VL 0", x.swapGain(0), 0);
    }

    /** Promise 37: at most three. */
    private static void marks() {
        VectorPipes x = new VectorPipes();
        for (int k = 1; k <= 3; k++) {
            Check.fine(x, "mark()", x.mark(), k);
        }
        Check.refused(x, "a fourth mark()", x.mark(), 7);
        Check.fine(x, "back()", x.back(), 2);
        Check.fine(x, "mark() again", x.mark(), 3);
        Check.refused(x, "a fourth mark() again", x.mark(), 7);
        for (int k = 2; k >= 0; k--) {
            Check.fine(x, "back()", x.back(), k);
        }
        Check.refused(x, "back() of none", x.back(), 8);
        Check.fine(x, "mark() anew", x.mark(), 1);
    }

    /** Promise 38: each MARK's own state; TRAYS, the tape, the FAULT, what ran() tells, what is told stay. */
    private static void backs() {
        VectorPipes x = new VectorPipes();
        for (int k = 0; k < 3; k++) {
            x.poke(63, k, 0);
            x.give(3, k, 0);
            x.put(k, 15, k + 1, 0);
            x.rule(0, k);
            x.rule(1, k + 1);
            x.rule(2, k + 1);
            x.rule(3, k);
            Check.program(x, "flip;".repeat(k));
            x.mark();
        }
        x.strange(63, 5);
        x.drop(0);
        Check.program(x, "setvl 1; flip; stop;");
        x.run();
        x.tray(3, 0, 1);
        Check.program(x, "!");
        Check.feed(x, "flip;stop;flip;stop;");
        for (int k = 2; k >= 0; k--) {
            x.poke(0, 2 * k + 5, 0);
            Check.fine(x, "back()", x.back(), k);
            Check.due("mantissa() stays", x.mantissa(), 2 * k + 5);
            Check.whole(x, "word(0)", x.word(0), 0);
            Check.fine(x, "many(0)", x.many(0), k);
            Check.fine(x, "many(1)", x.many(1), k + 1);
            Check.fine(x, "many(2)", x.many(2), k + 1);
            Check.fine(x, "many(3)", x.many(3), k);
            Check.fine(x, "many(4)", x.many(4), k);
            Check.fine(x, "many(5)", x.many(5), (2 << k) - 1);
            Check.whole(x, "word(63)", x.word(63), k);
            Check.whole(x, "scalar(3)", x.scalar(3), k);
            Check.whole(x, "element(k, 15)", x.element(k, 15), k + 1);
            Check.fine(x, "ran(2) stays", x.ran(2), 3);
        }
        Check.fine(x, "read(3, 0) stays", x.read(3, 0), 0);
        Check.due("fault(0) stays", x.fault(0), 1);
        Check.fine(x, "program(20): the tape stays", x.program(20), 4);
        Check.refused(x, "time(0, 0): no run since", x.time(0, 0), 8);
        x.run();
        Check.fine(x, "time(0, 0)", x.time(0, 0), 0);
        x.mark();
        Check.fine(x, "time(0, 0) behind mark()", x.time(0, 0), 0);
        x.back();
        Check.refused(x, "time(0, 0) behind back()", x.time(0, 0), 8);
        Check.fine(x, "ran(0) behind back()", x.ran(0), 1);
    }
}
