/**
 * Terms 2, at its edges: VL 0, 1 and 16, ROWS that are MISSING, places at both ends of the MEMORY, whole
 * B[i] and those that are not, what is done ahead of a TRAP and what is not.
 */
public final class TrapsTest {
    /** An INSTRUCTION with D ve, A or B of va, vb: the ROWS that it reads, then those that it writes. */
    private static final String[][] TOUCHED = {{"iota ve", "", "e"}, {"fill ve sa", "", "e"},
        {"load ve at 0 by 1", "", "e"}, {"store ve at 0 by 1", "e", ""}, {"gather ve at 0 of vb", "b", "e"},
        {"scatter ve at 0 of vb", "eb", ""}, {"add ve va vb", "ab", "e"}, {"sub ve va vb", "ab", "e"},
        {"mul ve va vb", "ab", "e"}, {"div ve va vb", "ab", "e"}, {"rem ve va vb", "ab", "e"},
        {"min ve va vb", "ab", "e"}, {"max ve va vb", "ab", "e"}, {"add ve va vb masked", "ab", "e"},
        {"mul ve va vb masked", "ab", "e"}, {"rem ve va vb masked", "ab", "e"}, {"copy ve va", "a", "e"},
        {"single ve va", "a", "e"}, {"whole ve va", "a", "e"}, {"copy ve va masked", "a", "e"},
        {"single ve va masked", "a", "e"}, {"whole ve va masked", "a", "e"}, {"less ve va", "ea", ""},
        {"same ve va", "ea", ""}, {"odd ve", "e", ""}, {"pack ve va", "a", "e"}, {"fold sb ve", "e", ""},
        {"top sb ve", "e", ""}, {"add ve ve va", "ea", "e"}, {"add ve va ve", "ea", "e"}, {"copy ve ve", "e", "e"},
        {"pack ve ve", "e", "e"}, {"gather ve at 0 of ve", "e", "e"}, {"copy ve ve masked", "e", "e"}};

    public static void main(String[] args) {
        for (String[] one : TOUCHED) {
            missing(one);
            none(one);
            written(one);
        }
        maskedMissing();
        packedMissing();
        lengths();
        places();
        gathered();
        kindsOfPlaces();
        trapOrder();
        doneAhead();
        behindTrap();
        inStrips();
        flips();
        folds();
        Check.end();
    }

    /** All ROWS are there, of 0, 1, 2 .., the MASK is set. */
    private static VectorPipes with(int vl, String text) {
        VectorPipes x = new VectorPipes();
        for (int r = 0; r < 6; r++) {
            for (int i = 0; i < 16; i++) {
                x.put(r, i, i, 0);
            }
        }
        x.rule(0, vl);
        x.rule(3, 65535);
        Check.due("program of " + text, Check.program(x, text) > 0, true);
        return x;
    }

    private static void trapped(VectorPipes x, String call, int kind, int at, int element, int done) {
        Check.refused(x, "run() of " + call, x.run(), 12);
        Check.fine(x, "ran(3) of " + call, x.ran(3), kind);
        Check.fine(x, "ran(4) of " + call, x.ran(4), at);
        Check.fine(x, "ran(5) of " + call, x.ran(5), element);
        Check.fine(x, "ran(2) of " + call, x.ran(2), done);
    }

    private static void ran(VectorPipes x, String call, int done) {
        Check.fine(x, "run() of " + call, x.run(), done);
        Check.fine(x, "ran(2) of " + call, x.ran(2), done);
        Check.fine(x, "ran(3) of " + call, x.ran(3), 0);
        Check.refused(x, "ran(4) of " + call, x.ran(4), 8);
        Check.refused(x, "ran(5) of " + call, x.ran(5), 8);
    }

    /** Each ROW that is read TRAPS when it alone is MISSING, whether the MASK is set or not, at VL 1 and 16. */
    private static void missing(String[] one) {
        for (char row : one[1].toCharArray()) {
            for (int vl = 1; vl <= 16; vl += 15) {
                for (int mask = 0; mask <= 65535; mask += 65535) {
                    VectorPipes x = with(vl, one[0] + ";");
                    x.rule(3, mask);
                    x.give(1, 77, 0);
                    x.drop(row - 'a');
                    trapped(x, one[0] + " without v" + row, 2, 0, 0, 0);
                    Check.fine(x, "many(5)", x.many(5), 63 - (1 << row - 'a'));
                    Check.fine(x, "many(3)", x.many(3), mask);
                    Check.whole(x, "scalar(1)", x.scalar(1), 77);
                    Check.whole(x, "word(0)", x.word(0), 0);
                    Check.fine(x, "ran(0)", x.ran(0), 0);
                    Check.fine(x, "ran(1)", x.ran(1), 0);
                    Check.fine(x, "time(0, 0)", x.time(0, 0), 0);
                    Check.refused(x, "time(0, 1)", x.time(0, 1), 8);
                }
            }
        }
    }

    /** With VL 0 nothing is read, nothing written, nothing TRAPS. */
    private static void none(String[] one) {
        VectorPipes x = with(0, one[0] + ";");
        for (int r = 0; r < 6; r++) {
            x.drop(r);
        }
        x.give(1, 77, 0);
        ran(x, one[0] + " with VL 0", 1);
        Check.fine(x, "many(5) of VL 0", x.many(5), 0);
        Check.fine(x, "many(3) of VL 0", x.many(3), 65535);
        int kind = one[0].startsWith("fold") ? 1 : one[0].startsWith("top") ? 4 : 0;
        Check.told(x, "scalar(1) of VL 0", x.scalar(1), kind, kind == 0 ? 77 : 0, 0);
    }

    /** A D that is only written need not be there: it is zeros behind the elements that came. */
    private static void written(String[] one) {
        if (!one[2].isEmpty() && one[1].indexOf('e') < 0) {
            VectorPipes x = with(1, one[0] + ";");
            x.give(0, 9, 0);
            for (int i = 0; i < 16; i++) {
                x.put(4, i, 5, 0);
            }
            ran(x, one[0], 1);
            Check.whole(x, "element(4, 1): it stays", x.element(4, 1), 5);
            Check.whole(x, "element(4, 15): it stays", x.element(4, 15), 5);
            x.drop(4);
            ran(x, one[0] + " without ve", 1);
            Check.fine(x, "many(5)", x.many(5), 63);
            for (int i = 1; i < 16; i++) {
                Check.told(x, one[0] + " element(4, " + i + ")", x.element(4, i), 1, 0, 0);
            }
        }
    }

    private static void maskedMissing() {
        for (String text : new String[] {"add ve va vb masked;", "copy ve va masked;", "rem ve va vb masked;"}) {
            VectorPipes x = with(4, text);
            x.drop(4);
            // bits of elements that do not count bring nothing
            x.rule(3, 65535 - 15);
            ran(x, text, 1);
            Check.fine(x, "many(5): none came", x.many(5), 63 - 16);
            Check.refused(x, "element(4, 0)", x.element(4, 0), 3);
            x.rule(3, 8);
            ran(x, text, 1);
            Check.fine(x, "many(5): one came", x.many(5), 63);
            for (int i = 0; i < 16; i++) {
                Check.due("element(4, " + i + ")", x.element(4, i) == 0, i == 3 && !text.startsWith("rem"));
            }
        }
    }

    private static void packedMissing() {
        VectorPipes x = with(4, "pack ve va;");
        x.drop(4);
        x.rule(3, 65535 - 15);
        ran(x, "pack of none", 1);
        Check.fine(x, "many(5): none is packed", x.many(5), 63 - 16);
        x.rule(3, 8);
        ran(x, "pack of the last", 1);
        Check.fine(x, "many(5): one is packed", x.many(5), 63);
        Check.whole(x, "element(4, 0)", x.element(4, 0), 3);
        Check.whole(x, "element(4, 1)", x.element(4, 1), 0);
        Check.whole(x, "element(4, 3)", x.element(4, 3), 0);
        x = with(16, "pack ve va;");
        ran(x, "pack of all", 1);
        for (int i = 0; i < 16; i++) {
            Check.whole(x, "element(4, i) of all", x.element(4, i), i);
        }
        x = with(16, "pack va va;");
        x.rule(3, 0x8002);
        ran(x, "pack in place", 1);
        Check.whole(x, "element(0, 0) in place", x.element(0, 0), 1);
        Check.whole(x, "element(0, 1) in place", x.element(0, 1), 15);
        Check.whole(x, "element(0, 2) in place", x.element(0, 2), 2);
    }

    /** setvl and the elements that count: 0, 1, 15, 16. */
    private static void lengths() {
        for (int vl = 0; vl <= 16; vl++) {
            VectorPipes x = with(7, "setvl " + vl + "; fill ve sa; count sb;");
            x.give(0, 3, 0);
            x.drop(4);
            ran(x, "setvl " + vl, 3);
            Check.fine(x, "many(0)", x.many(0), vl);
            Check.whole(x, "scalar(1) of setvl " + vl, x.scalar(1), vl);
            for (int i = 0; i < 16; i++) {
                if (vl == 0) {
                    Check.refused(x, "element of VL 0", x.element(4, i), 3);
                } else {
                    Check.whole(x, "element(4, " + i + ") of VL " + vl, x.element(4, i), i < vl ? 3 : 0);
                }
            }
        }
    }

    private static void place(String text, int vl, int trapAt) {
        VectorPipes x = with(vl, text);
        if (trapAt < 0) {
            ran(x, text + " VL " + vl, 1);
        } else {
            trapped(x, text + " VL " + vl, 1, 0, trapAt, 0);
        }
    }

    /** The last WORD is 63. */
    private static void places() {
        for (String op : new String[] {"load", "store"}) {
            place(op + " ve at 63 by 1;", 1, -1);
            place(op + " ve at 63 by 1;", 2, 1);
            place(op + " ve at 63 by 0;", 16, -1);
            place(op + " ve at 63 by 16;", 1, -1);
            place(op + " ve at 63 by 16;", 2, 1);
            place(op + " ve at 48 by 1;", 16, -1);
            place(op + " ve at 49 by 1;", 16, 15);
            place(op + " ve at 0 by 16;", 4, -1);
            place(op + " ve at 0 by 16;", 5, 4);
            place(op + " ve at 0 by 4;", 16, -1);
            place(op + " ve at 3 by 4;", 16, -1);
            place(op + " ve at 4 by 4;", 16, 15);
            place(op + " ve at 63 by 16;", 0, -1);
        }
        VectorPipes x = with(16, "store va at 48 by 1; load ve at 48 by 1;");
        ran(x, "the last WORDS", 2);
        for (int i = 0; i < 16; i++) {
            Check.whole(x, "word(48 + i)", x.word(48 + i), i);
            Check.whole(x, "element(4, i)", x.element(4, i), i);
        }
        Check.whole(x, "word(47)", x.word(47), 0);
    }

    private static void gather(int at, long m, int e, int kind) {
        for (String op : new String[] {"gather", "scatter"}) {
            String text = op + " ve at " + at + " of vb;";
            VectorPipes x = with(1, text);
            x.put(1, 0, m, e);
            String call = text + " by " + m + " e " + e;
            if (kind == 0) {
                ran(x, call, 1);
            } else {
                trapped(x, call, kind, 0, 0, 0);
            }
        }
    }

    /** B[i]: whole, from -1,000,000 to 1,000,000, and then a place from 0 to 63. */
    private static void gathered() {
        gather(0, 0, 0, 0);
        gather(0, -1, 0, 1);
        gather(0, 63, 0, 0);
        gather(0, 1, 6, 1);
        gather(63, 0, 0, 0);
        gather(63, 1, 0, 1);
        gather(63, -63, 0, 0);
        gather(63, -64, 0, 1);
        gather(40, 23, 0, 0);
        gather(40, 24, 0, 1);
        gather(40, -40, 0, 0);
        gather(40, -41, 0, 1);
        gather(0, 1000000, 0, 1);
        gather(0, 1000001, 0, 3);
        gather(63, 1000000, 0, 1);
        gather(63, 1000001, 0, 3);
        gather(0, -1000000, 0, 1);
        gather(0, -1000001, 0, 3);
        gather(0, 1999999, -1, 3);
        gather(0, 2000001, -1, 3);
        gather(0, -1999999, -1, 3);
        gather(0, -2000001, -1, 3);
        gather(0, 1, -1, 3);
        gather(0, -1, -1, 3);
        gather(0, 1, -200, 3);
        gather(0, -1, -200, 3);
        gather(0, 1, 31, 3);
        gather(0, 1, 32, 3);
        gather(0, -1, 31, 3);
        gather(0, 1, 63, 3);
        gather(0, 1, 64, 3);
        gather(0, -1, 64, 3);
        gather(0, 1, 200, 3);
        gather(0, -1, 200, 3);
    }

    private static void kindsOfPlaces() {
        // 0 and minus 0 are the place told behind at; infinite ones and no number TRAP
        int[] traps = {0, 0, 0, 3, 3, 3};
        for (int kind = 1; kind <= 5; kind++) {
            for (String op : new String[] {"gather", "scatter"}) {
                VectorPipes x = with(1, "load vb at 9 by 0; " + op + " va at 63 of vb;");
                x.strange(9, kind);
                if (traps[kind] == 0) {
                    ran(x, op + " of KIND " + kind, 2);
                } else {
                    trapped(x, op + " of KIND " + kind, 3, 1, 0, 1);
                }
            }
        }
    }

    /** Of several at one element: 2 ahead of 3 ahead of 1; of several elements the first. */
    private static void trapOrder() {
        String[] ops = {"gather ve at 63 of vb;", "scatter ve at 63 of vb;"};
        for (String text : ops) {
            VectorPipes x = with(3, text);
            x.put(1, 0, 1, -1);
            x.drop(text.startsWith("g") ? 1 : 4);
            trapped(x, "2 ahead of 3", 2, 0, 0, 0);
            x = with(3, text);
            x.put(1, 0, 1, 0);
            x.drop(text.startsWith("g") ? 1 : 4);
            trapped(x, "2 ahead of 1", 2, 0, 0, 0);
            x = with(3, text);
            x.put(1, 0, 3, -1);
            trapped(x, "3 ahead of 1", 3, 0, 0, 0);
            x = with(3, text);
            x.put(1, 0, 1, 0);
            x.put(1, 1, 1, -1);
            trapped(x, "1 at the element ahead", 1, 0, 0, 0);
            x = with(3, text);
            x.put(1, 0, 1, -1);
            x.put(1, 1, 1, 0);
            trapped(x, "3 at the element ahead", 3, 0, 0, 0);
            x = with(1, text);
            x.put(1, 1, 1, -1);
            ran(x, "what does not count TRAPS not", 1);
        }
        VectorPipes x = with(3, "scatter ve at 0 of vb;");
        x.drop(1);
        x.drop(4);
        trapped(x, "both are MISSING", 2, 0, 0, 0);
    }

    /** All ahead of the element is done, itself and all behind it is not. */
    private static void doneAhead() {
        VectorPipes x = with(5, "fill vf sa; gather ve at 10 of vb; flip;");
        x.give(0, 4, 0);
        x.poke(10, 50, 0);
        x.poke(11, 51, 0);
        x.put(1, 2, 1, -1);
        x.drop(4);
        trapped(x, "gather", 3, 1, 2, 1);
        Check.whole(x, "element(5, 4): the fill ahead", x.element(5, 4), 4);
        Check.whole(x, "element(4, 0)", x.element(4, 0), 50);
        Check.whole(x, "element(4, 1)", x.element(4, 1), 51);
        Check.whole(x, "element(4, 2)", x.element(4, 2), 0);
        Check.fine(x, "many(3): no flip", x.many(3), 65535);
        Check.fine(x, "time(0, 1)", x.time(0, 1), 4);
        Check.fine(x, "time(1, 0)", x.time(1, 0), 1);
        Check.fine(x, "time(1, 1): its last that was TAKEN", x.time(1, 1), 2);
        Check.refused(x, "time(2, 0)", x.time(2, 0), 8);
        // fill's last element is READY at 7, as is element 1 of gather
        Check.fine(x, "ran(0)", x.ran(0), 7);
        x = with(5, "scatter va at 58 of vb;");
        for (int i = 0; i < 5; i++) {
            x.put(0, i, 70 + i, 0);
            x.put(1, i, 2 * i, 0);
        }
        trapped(x, "scatter", 1, 0, 3, 0);
        Check.whole(x, "word(58)", x.word(58), 70);
        Check.whole(x, "word(60)", x.word(60), 71);
        Check.whole(x, "word(62)", x.word(62), 72);
        Check.whole(x, "word(63)", x.word(63), 0);
        Check.fine(x, "ran(0): nothing is READY by a scatter", x.ran(0), 2);
        x = with(5, "store va at 60 by 1;");
        trapped(x, "store", 1, 0, 4, 0);
        Check.whole(x, "word(63)", x.word(63), 3);
        x = with(5, "load ve at 60 by 1;");
        x.poke(63, 8, 0);
        trapped(x, "load", 1, 0, 4, 0);
        Check.whole(x, "element(4, 3)", x.element(4, 3), 8);
        Check.whole(x, "element(4, 4): it stays", x.element(4, 4), 4);
        // STALLS of what was TAKEN are told, of what TRAPPED not
        x = with(5, "scatter va at 0 of vb;");
        x.put(1, 1, 8, 0);
        x.put(1, 2, 64, 0);
        trapped(x, "scatter with STALLS", 1, 0, 2, 0);
        Check.fine(x, "ran(1)", x.ran(1), 3);
    }

    /** Nothing is taken back; the next run begins anew, from what is there. */
    private static void behindTrap() {
        VectorPipes x = with(2, "setvl 3; load va at 62 by 1;");
        x.poke(62, 30, 0);
        trapped(x, "load", 1, 1, 2, 1);
        Check.fine(x, "many(0)", x.many(0), 3);
        Check.whole(x, "element(0, 0)", x.element(0, 0), 30);
        Check.fine(x, "program", Check.program(x, "load vb at 0 by 1; stop;"), 2);
        Check.fine(x, "ran(3) of the run ahead", x.ran(3), 1);
        ran(x, "behind a TRAP", 2);
        Check.fine(x, "ran(0)", x.ran(0), 7);
    }

    /** The element is that of its time round; VL stays as it is then, as by a stop; BASE is 0 again. */
    private static void inStrips() {
        VectorPipes x = with(3, "strip 65; load ve at 0 by 1; end;");
        trapped(x, "strip 65", 1, 1, 0, 5);
        Check.fine(x, "many(0): what is left", x.many(0), 1);
        x = with(3, "strip 64; load ve at 0 by 1; end;");
        ran(x, "strip 64", 5);
        Check.fine(x, "many(0): as it was", x.many(0), 3);
        x = with(3, "strip 200; load ve at 1 by 1; end;");
        trapped(x, "strip 200", 1, 1, 15, 4);
        Check.fine(x, "many(0): 16", x.many(0), 16);
        Check.program(x, "load vf at 48 by 1;");
        ran(x, "BASE is 0 behind a TRAP", 1);
        x = with(3, "strip 17; setvl 2; stop; end;");
        ran(x, "stop in a strip", 3);
        Check.fine(x, "many(0) behind stop", x.many(0), 2);
        x = with(3, "strip 16; stop; end;");
        ran(x, "stop at once", 2);
        Check.fine(x, "many(0) of strip 16", x.many(0), 16);
        x = with(3, "strip 15; stop; end;");
        ran(x, "stop in strip 15", 2);
        Check.fine(x, "many(0) of strip 15", x.many(0), 15);
        x = with(3, "strip 0; stop; end; setvl 5;");
        ran(x, "strip 0", 2);
        Check.fine(x, "many(0) behind strip 0", x.many(0), 5);
        rounds();
    }

    /** How often, by which VL and BASE: the last time with 1 to 16. */
    private static void rounds() {
        for (int n : new int[] {0, 1, 2, 15, 16, 17, 31, 32, 33, 47, 48, 49, 59, 60}) {
            VectorPipes x = with(3, "strip " + n + "; load va at 0 by 1; add vb va vf; store vb at 0 by 1; end;"
                + "iota vc; store vc at 61 by 1; strip 2; store vc at 60 by 1; end; store vc at 61 by 1;");
            for (int i = 0; i < 16; i++) {
                x.put(5, i, 1, 0);
            }
            x.tray(0, 3, 60);
            for (int i = 0; i < 60; i++) {
                x.write(0, i, 100 + i);
            }
            x.pokeAll(0, 0, 60);
            int rounds = (n + 15) / 16;
            ran(x, "strip " + n, 1 + 3 * rounds + 2 + 2 + 1);
            Check.fine(x, "many(0): as it was", x.many(0), 3);
            for (int a = 0; a < 60; a++) {
                Check.whole(x, "word(" + a + ") of strip " + n, x.word(a), 100 + a + (a < n ? 1 : 0));
            }
            // BASE is 0 behind and between them: else these were TRAPS
            Check.whole(x, "word(60)", x.word(60), 0);
            Check.whole(x, "word(61)", x.word(61), 0);
            Check.whole(x, "word(63)", x.word(63), 2);
        }
        VectorPipes x = with(3, "strip 40; setvl 2; iota va; end; fill vb sa;");
        ran(x, "setvl in a strip", 1 + 3 * 2 + 1);
        Check.fine(x, "many(0): as it was when the strip was come to", x.many(0), 3);
        x = with(3, "strip 200; end;");
        ran(x, "an empty strip", 1);
        x = with(3, "strip 200; flip; end;");
        ran(x, "strip 200", 1 + 13);
        // twelve times with 16, once with 8
        Check.fine(x, "many(3)", x.many(3), 65535 - 255);
    }

    private static void flips() {
        for (int vl = 0; vl <= 16; vl++) {
            VectorPipes x = with(vl, "flip; count sa;");
            x.rule(3, 0xa5a5);
            ran(x, "flip", 2);
            int low = (1 << vl) - 1;
            Check.fine(x, "many(3) of VL " + vl, x.many(3), 0xa5a5 ^ low);
            Check.whole(x, "scalar(0) of VL " + vl, x.scalar(0), Integer.bitCount((0xa5a5 ^ low) & low));
        }
        VectorPipes x = with(2, "less va vb;");
        ran(x, "less", 1);
        Check.fine(x, "many(3): bits that do not count stay", x.many(3), 65532);
        x = with(2, "odd va; same va vb;");
        ran(x, "same", 2);
        Check.fine(x, "many(3) of same", x.many(3), 65535);
    }

    private static void folds() {
        for (int vl = 0; vl <= 16; vl++) {
            VectorPipes x = with(vl, "fold sa vb; top sb vb;");
            for (int i = 0; i < 16; i++) {
                x.put(1, i, i - 20, 0);
            }
            ran(x, "fold", 2);
            if (vl == 0) {
                Check.told(x, "fold of none", x.scalar(0), 1, 0, 0);
                Check.told(x, "top of none", x.scalar(1), 4, 0, 0);
            } else {
                Check.whole(x, "fold of " + vl, x.scalar(0), vl * (vl - 1) / 2 - 20 * vl);
                Check.whole(x, "top of " + vl, x.scalar(1), vl - 21);
            }
            Check.whole(x, "element(1, 0): the ROW stays", x.element(1, 0), -20);
        }
        VectorPipes x = with(1, "load vb at 0 by 0; fold sa vb; top sb vb;");
        x.strange(0, 2);
        ran(x, "of minus 0", 3);
        Check.told(x, "fold of minus 0", x.scalar(0), 2, 0, 0);
        Check.told(x, "top of minus 0", x.scalar(1), 2, 0, 0);
        x.strange(0, 5);
        ran(x, "of no number", 3);
        Check.told(x, "fold of no number", x.scalar(0), 5, 0, 0);
        Check.told(x, "top of no number", x.scalar(1), 5, 0, 0);
        x.rule(0, 2);
        Check.program(x, "load vb at 0 by 1; top sb vb;");
        x.strange(0, 2);
        ran(x, "top of minus 0 and 0", 2);
        Check.told(x, "top of minus 0 and 0", x.scalar(1), 1, 0, 0);
    }
}
