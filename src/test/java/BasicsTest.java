/** Promises 1 to 12: a new object, what is told, TRAYS, texts. */
public final class BasicsTest {
    public static void main(String[] args) {
        newObject();
        statusAndTold();
        trays();
        cuts();
        pours();
        feeds();
        programs();
        faults();
        manies();
        Check.end();
    }

    private static void newObject() {
        VectorPipes x = new VectorPipes();
        Check.due("status()", x.status(), 0);
        Check.due("mantissa()", x.mantissa(), 0);
        Check.due("exponent()", x.exponent(), 0);
        Check.due("fault(0)", x.fault(0), -1);
        Check.due("fault(1)", x.fault(1), -1);
        int[] first = {16, 8, 4, 0, 0, 0};
        for (int what = 0; what < 6; what++) {
            Check.fine(x, "many(" + what + ")", x.many(what), first[what]);
        }
        for (int t = 0; t < 4; t++) {
            Check.refused(x, "read(" + t + ", 0)", x.read(t, 0), 3);
        }
        for (int r = 0; r < 6; r++) {
            Check.refused(x, "element(" + r + ", 0)", x.element(r, 0), 3);
        }
        for (int s = 0; s < 4; s++) {
            Check.whole(x, "scalar(" + s + ")", x.scalar(s), 0);
        }
        for (int a = 0; a < 64; a++) {
            Check.whole(x, "word(" + a + ")", x.word(a), 0);
        }
        Check.refused(x, "run()", x.run(), 8);
        Check.refused(x, "ran(0)", x.ran(0), 8);
        Check.refused(x, "time(0, 0)", x.time(0, 0), 2);
        Check.refused(x, "back()", x.back(), 8);
        Check.refused(x, "program(1)", x.program(1), 5);
        Check.due("NONE", VectorPipes.NONE, -1);
    }

    private static void statusAndTold() {
        VectorPipes x = new VectorPipes();
        x.poke(3, -12, 7);
        Check.due("mantissa()", x.mantissa(), -3);
        Check.due("exponent()", x.exponent(), 9);
        x.word(64);
        Check.due("status()", x.status(), 2);
        x.fault(0);
        x.feed(0, 0, 0, 0, 0);
        Check.due("mantissa()", x.mantissa(), -3);
        Check.due("exponent()", x.exponent(), 9);
        Check.due("status() of those without", x.status(), 2);
        x.strange(3, 3);
        Check.due("mantissa() behind strange", x.mantissa(), -3);
        x.word(3);
        Check.due("mantissa() of an infinite one", x.mantissa(), 0);
        Check.due("exponent() of an infinite one", x.exponent(), 0);
        Check.due("status()", x.status(), 0);
    }

    private static void trays() {
        VectorPipes x = new VectorPipes();
        Check.denied(x, "tray(-1, 0, 1)", x.tray(-1, 0, 1), 1);
        Check.denied(x, "tray(4, 0, 1)", x.tray(4, 0, 1), 1);
        Check.denied(x, "tray(0, -1, 1)", x.tray(0, -1, 1), 1);
        Check.denied(x, "tray(0, 4, 61)", x.tray(0, 4, 61), 1);
        Check.denied(x, "tray(0, 0, 61)", x.tray(0, 0, 61), 5);
        Check.denied(x, "tray(0, 0, -1)", x.tray(0, 0, -1), 6);
        Check.refused(x, "read(0, 0)", x.read(0, 0), 3);
        Check.fine(x, "tray(0, 3, 60)", x.tray(0, 3, 60));
        Check.fine(x, "write(0, 59, -7)", x.write(0, 59, -7));
        Check.due("read(0, 59)", x.read(0, 59), -7);
        Check.denied(x, "write(0, 60, 1)", x.write(0, 60, 1), 4);
        Check.denied(x, "write(0, -1, 1)", x.write(0, -1, 1), 4);
        Check.denied(x, "write(1, -1, 1)", x.write(1, -1, 1), 3);
        Check.denied(x, "write(4, 0, 1)", x.write(4, 0, 1), 1);
        Check.refused(x, "read(0, 60)", x.read(0, 60), 4);
        Check.refused(x, "read(0, -1)", x.read(0, -1), 4);
        Check.refused(x, "read(-1, 0)", x.read(-1, 0), 1);
        Check.fine(x, "read(0, 59) behind refusals", x.read(0, 59), -7);
        Check.fine(x, "tray(0, 3, 60)", x.tray(0, 3, 60));
        Check.fine(x, "read(0, 59) anew", x.read(0, 59), 0);
        x.write(0, 0, -1);
        Check.fine(x, "read(0, 0) of -1", x.read(0, 0), -1);
        Check.fine(x, "tray(0, 0, 0)", x.tray(0, 0, 0));
        Check.refused(x, "read(0, 0) of none", x.read(0, 0), 4);
    }

    private static void cuts() {
        VectorPipes x = new VectorPipes();
        long v = 0x123456789abcdef0L;
        long[] cut = {(byte) v, (short) v, (int) v, v};
        long[] least = {-128, -32768, Integer.MIN_VALUE, Long.MIN_VALUE};
        for (int sort = 0; sort < 4; sort++) {
            x.tray(sort, sort, 3);
            x.write(sort, 0, v);
            x.write(sort, 1, least[sort]);
            x.write(sort, 2, least[sort] - 1);
            Check.fine(x, "read(" + sort + ", 0)", x.read(sort, 0), cut[sort]);
            Check.fine(x, "read(" + sort + ", 1)", x.read(sort, 1), least[sort]);
            Check.fine(x, "read(" + sort + ", 2)", x.read(sort, 2), -(least[sort] + 1));
        }
    }

    private static void pours() {
        VectorPipes x = new VectorPipes();
        x.tray(0, 0, 5);
        x.tray(1, 1, 5);
        x.tray(2, 0, 3);
        for (int k = 0; k < 5; k++) {
            x.write(0, k, k + 1);
        }
        Check.denied(x, "pour(4, ..)", x.pour(4, 0, 3, 0, 1), 1);
        Check.denied(x, "pour(3, ..)", x.pour(3, 0, -1, 0, 1), 1);
        Check.denied(x, "pour(3, 0, 0, 0, 1)", x.pour(3, 0, 0, 0, 1), 3);
        Check.denied(x, "pour(0, 0, 3, 0, 1)", x.pour(0, 0, 3, 0, 1), 3);
        Check.denied(x, "pour(0, 0, 1, 0, -1)", x.pour(0, 0, 1, 0, -1), 11);
        Check.denied(x, "pour(0, -1, 2, 0, -1)", x.pour(0, -1, 2, 0, -1), 6);
        Check.denied(x, "pour(0, -1, 2, 0, 1)", x.pour(0, -1, 2, 0, 1), 4);
        Check.denied(x, "pour(0, 0, 2, -1, 1)", x.pour(0, 0, 2, -1, 1), 4);
        Check.denied(x, "pour(0, 0, 2, 0, 4)", x.pour(0, 0, 2, 0, 4), 4);
        Check.denied(x, "pour(0, 3, 2, 0, 3)", x.pour(0, 3, 2, 0, 3), 4);
        Check.denied(x, "pour much", x.pour(0, 1, 2, 1, Integer.MAX_VALUE), 4);
        Check.denied(x, "pour far", x.pour(0, Integer.MAX_VALUE, 2, 0, 1), 4);
        Check.fine(x, "pour(0, 2, 2, 0, 3)", x.pour(0, 2, 2, 0, 3));
        Check.fine(x, "read(2, 0)", x.read(2, 0), 3);
        Check.fine(x, "read(2, 2)", x.read(2, 2), 5);
        Check.fine(x, "pour(0, 0, 0, 1, 4)", x.pour(0, 0, 0, 1, 4));
        long[] up = {1, 1, 2, 3, 4};
        for (int k = 0; k < 5; k++) {
            Check.fine(x, "read(0, k) poured up", x.read(0, k), up[k]);
        }
        Check.fine(x, "pour(0, 1, 0, 0, 4)", x.pour(0, 1, 0, 0, 4));
        long[] down = {1, 2, 3, 4, 4};
        for (int k = 0; k < 5; k++) {
            Check.fine(x, "read(0, k) poured down", x.read(0, k), down[k]);
        }
        Check.fine(x, "pour(0, 0, 2, 0, 0)", x.pour(0, 0, 2, 0, 0));
        Check.fine(x, "read(2, 0) behind none", x.read(2, 0), 3);
    }

    private static void feeds() {
        VectorPipes x = new VectorPipes();
        x.word(64);
        for (int k = 1; k <= 45; k++) {
            Check.due("feed " + k, x.feed(0x20202020, 0x20202020, 0x20202020, 0x20202020, 0x20202020), 20 * k);
        }
        Check.due("feed 46", x.feed(0, 0, 0, 0, 0), -1);
        Check.due("status() behind feed", x.status(), 2);
        Check.refused(x, "program(901)", x.program(901), 5);
        Check.fine(x, "program(900)", x.program(900), 0);
        Check.refused(x, "program(1) of the empty tape", x.program(1), 5);
        // "stop" "; s" "top;" .. : the highest byte first
        Check.due("feed", x.feed(0x73746f70, 0x3b0a7374, 0x6f703b20, 0x666c6970, 0x3b202020), 20);
        Check.fine(x, "program(17)", x.program(17), 3);
        Check.due("feed of high bytes", x.feed(0x666c6970, 0x3bffffff, -1, -1, -1), 20);
        Check.refused(x, "program(6)", x.program(6), 10);
        Check.due("fault(0)", x.fault(0), 1);
        Check.due("fault(1)", x.fault(1), 5);
    }

    private static void programs() {
        VectorPipes x = new VectorPipes();
        Check.fine(x, "program", Check.program(x, "flip;flip;"), 2);
        Check.feed(x, "stop;");
        Check.refused(x, "program(21)", x.program(21), 5);
        Check.refused(x, "program(-1)", x.program(-1), 5);
        Check.due("fault(0) behind 5", x.fault(0), 0);
        Check.fine(x, "program(5) of what stayed", x.program(5), 1);
        x.run();
        Check.refused(x, "program with a FAULT", Check.program(x, "stop"), 10);
        Check.due("the tape behind a FAULT", x.feed(0, 0, 0, 0, 0), 20);
        Check.fine(x, "many(4): the old one", x.many(4), 1);
        Check.fine(x, "time(0, 0) of the old one", x.time(0, 0), 0);
        Check.fine(x, "program(0)", x.program(0), 0);
        Check.due("fault(0) of program(0)", x.fault(0), 0);
        Check.due("fault(1) of program(0)", x.fault(1), -1);
        Check.due("fault(2)", x.fault(2), -1);
        Check.due("fault(-1)", x.fault(-1), -1);
        Check.taken("", 0);
        Check.taken(" \n ", 0);
        Check.taken("load va at 63by 16;load va at 0 by 0;", 2);
        Check.taken("load\nva\nat0063by0016;strip200;end;", 2);
        Check.taken("setvl 0;setvl 16;iota vf;fill vb sd;store vc at 1 by 2;", 5);
        Check.taken("gather va at 1 of vb;scatter va at 1 of vb;less va vb;same vc vd;odd ve;", 5);
        Check.taken("add va vb vc;sub va vb vc masked;mul va vb vc;div va vb vc masked;rem va va va;", 5);
        Check.taken("min va vb vc;max va vb vc masked;copy va vb;single va vb masked;whole va vb;", 5);
        Check.taken("flip;pack va vb;count sa;fold sb vc;top sc vd;strip 0;stop;end;strip 7;end;", 8);
        StringBuilder thirty = new StringBuilder();
        for (int k = 0; k < 14; k++) {
            thirty.append("strip 3;flip;end;");
        }
        Check.taken(thirty + "flip;flip;", 30);
        Check.taken(thirty + "flip;strip 1;end;", 30);
    }

    private static void faults() {
        Check.fault("Flip;", 1, 0);
        Check.fault("flip;\t", 1, 5);
        Check.fault("setvl 00001;", 1, 6);
        Check.fault("setvl -1;", 1, 6);
        Check.fault("12345", 1, 0);
        Check.fault("flip,", 1, 4);
        Check.fault("flip 12345;", 1, 5);
        Check.fault("flip \u0080;", 1, 5);
        Check.fault("1;", 2, 0);
        Check.fault(";", 2, 0);
        Check.fault("flip;;", 2, 5);
        Check.fault("flipp;", 2, 0);
        Check.fault("fli;", 2, 0);
        Check.fault("masked;", 2, 0);
        Check.fault("z;", 2, 0);
        Check.fault("a;", 2, 0);
        Check.fault("9;", 2, 0);
        Check.fault("flip flip;", 2, 5);
        Check.fault("setvl", 2, 5);
        Check.fault("setvl  ", 2, 7);
        Check.fault("setvl va;", 2, 6);
        Check.fault("setvl 1 1;", 2, 8);
        Check.fault("setvl 17;", 4, 6);
        Check.fault("setvl 9999;", 4, 6);
        Check.fault("load va at 64 by 1;", 4, 11);
        Check.fault("store va at 1 by 17;", 4, 17);
        Check.fault("gather va at 64 of vb;", 4, 13);
        Check.fault("scatter va at 1 by vb;", 2, 16);
        Check.fault("load va by 1 at 1;", 2, 8);
        Check.fault("strip 201;", 4, 6);
        Check.fault("iota vg;", 2, 5);
        Check.fault("iota vaa;", 2, 5);
        Check.fault("iota v;", 2, 5);
        Check.fault("fill va se;", 2, 8);
        Check.fault("fill sa va;", 2, 5);
        Check.fault("less va vb masked;", 2, 11);
        Check.fault("pack va vb masked;", 2, 11);
        Check.fault("copy va masked;", 2, 8);
        Check.fault("copy va vb masked masked;", 2, 18);
        Check.fault("add va vb;", 2, 9);
        Check.fault("add va vb vc 1;", 2, 13);
        Check.fault("count;", 2, 5);
        Check.fault("end;", 2, 0);
        Check.fault("strip 1;end;end;", 2, 12);
        Check.fault("strip 1;end", 2, 11);
        Check.fault("strip 1;flip; ", 2, 14);
        Check.fault("strip 1;flip;strip 1;end;end;", 7, 13);
        Check.fault("strip 1;strip", 7, 8);
        Check.fault("strip 1;setvl 17;strip 1;", 4, 14);
        StringBuilder thirty = new StringBuilder();
        for (int k = 0; k < 29; k++) {
            thirty.append("flip;");
        }
        Check.fault(thirty + "strip 1;strip 1;", 6, 153);
        Check.fault(thirty + "strip 1;flip;", 6, 153);
        Check.fault(thirty + "strip 1;foo;", 2, 153);
        Check.fault(thirty + "strip 1;!", 1, 153);
        Check.fault(thirty + "strip 1;", 2, 153);
        Check.fault(thirty + "flip;stop;", 6, 150);
    }

    private static void manies() {
        VectorPipes x = new VectorPipes();
        x.rule(0, 5);
        x.rule(1, 3);
        x.rule(2, 12);
        x.rule(3, 40000);
        x.put(1, 0, 1, 0);
        x.put(5, 3, 1, 0);
        Check.program(x, "strip 5;flip;end;stop;");
        int[] due = {5, 3, 12, 40000, 3, 34};
        for (int what = 0; what < 6; what++) {
            Check.fine(x, "many(" + what + ")", x.many(what), due[what]);
        }
        Check.refused(x, "many(6)", x.many(6), 5);
        Check.refused(x, "many(-1)", x.many(-1), 5);
    }
}
