/**
 * All that can be seen of an object, as a text; an object is of no use behind it (its tape, its MARKS are
 * asked by calls that change them). It asks fewer than 512 calls.
 */
final class Snapshot {
    private Snapshot() {
    }

    static String of(VectorPipes x) {
        StringBuilder all = new StringBuilder();
        for (int what = -1; what < 3; what++) {
            all.append(" fault ").append(x.fault(what));
        }
        for (int what = 0; what < 6; what++) {
            all.append("\nmany ").append(x.many(what));
        }
        numbers(x, all);
        trays(x, all);
        for (int what = 0; what < 6; what++) {
            all.append("\nran ").append(x.ran(what)).append(' ').append(x.status());
        }
        int instructions = x.many(4);
        for (int k = 0; k < instructions; k++) {
            all.append("\ntime ").append(x.time(k, 0)).append(' ').append(x.status());
            all.append(' ').append(x.time(k, 1)).append(' ').append(x.status());
            for (int j = 0; j < k; j++) {
                all.append(' ').append(x.depends(j, k));
            }
        }
        all.append("\nmark ").append(x.mark()).append(' ').append(x.status());
        all.append("\nfeed ").append(x.feed(0x666c6970, 0x3b202020, 0x20202020, 0x20202020, 0x20202020));
        all.append("\nprogram ").append(x.program(21)).append(' ').append(x.status());
        return all.toString();
    }

    private static void told(VectorPipes x, int kind, StringBuilder all) {
        all.append(' ').append(kind);
        if (kind == 0) {
            all.append(':').append(x.mantissa()).append('e').append(x.exponent());
        }
    }

    private static void numbers(VectorPipes x, StringBuilder all) {
        int there = x.many(5);
        for (int r = 0; r < 6; r++) {
            for (int i = 0; i < 16 && (there >> r & 1) != 0; i++) {
                told(x, x.element(r, i), all.append("\nelement"));
            }
        }
        for (int s = 0; s < 4; s++) {
            told(x, x.scalar(s), all.append("\nscalar"));
        }
        for (int a = 0; a < 64; a++) {
            told(x, x.word(a), all.append("\nword"));
        }
    }

    private static void trays(VectorPipes x, StringBuilder all) {
        for (int t = 0; t < 4; t++) {
            int status = 0;
            for (int place = 0; place <= 60 && status == 0; place++) {
                long v = x.read(t, place);
                status = x.status();
                all.append("\ntray ").append(v).append(' ').append(status);
            }
            // two TRAYS of the same sort, or not
            x.pour(t, 0, 1, 0, -1);
            all.append(" sort ").append(x.status());
        }
    }
}
