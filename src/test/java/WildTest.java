import java.util.Random;

/** Calls with any arguments in any order: none throws, a refused one answers NONE or false. */
public final class WildTest {
    private static final int[] EDGES = {Integer.MIN_VALUE, -201, -200, -64, -2, -1, 0, 1, 2, 3, 4, 5, 6, 7, 8, 12, 13,
        15, 16, 17, 29, 30, 59, 60, 61, 63, 64, 65, 200, 201, 900, 65535, 65536, Integer.MAX_VALUE};
    private static final String[] WORDS = {"setvl", "iota", "fill", "load", "store", "gather", "scatter", "add", "rem",
        "copy", "masked", "less", "odd", "flip", "pack", "count", "fold", "top", "strip", "end", "stop", "va", "vb",
        "vf", "vg", "sa", "sd", "at", "by", "of", ";", ";", ";", "0", "1", "16", "63", "200", "12345", "!", "\n"};

    private static Random random;

    public static void main(String[] args) {
        for (int seed = 0; seed < 3000; seed++) {
            random = new Random(seed);
            VectorPipes x = new VectorPipes();
            for (int k = 0; k < 512; k++) {
                any(x);
            }
        }
        System.out.println("nothing was thrown");
        Check.end();
    }

    private static int any() {
        return random.nextInt(4) == 0 ? EDGES[random.nextInt(EDGES.length)] : random.nextInt(8);
    }

    private static String text() {
        StringBuilder text = new StringBuilder();
        int many = random.nextInt(40);
        for (int k = 0; k < many; k++) {
            String line = random.nextInt(3) > 0 ? LINES[random.nextInt(LINES.length)] : WORDS[random.nextInt(WORDS.length)];
            text.append(line).append(' ');
        }
        return text.toString();
    }

    private static final String[] LINES = {"setvl 5;", "iota va;", "fill vb sa;", "load vc at 3 by 2;", "strip 150;", "end;",
        "store va at 60 by 1;", "gather vd at 1 of va;", "scatter vd at 1 of va;", "rem va vb vc;", "div va vb vc masked;",
        "flip;", "pack ve vf;", "fold sa va;", "top sb vb;", "whole va va;", "single vf va masked;", "less va vb;", "stop;"};

    private static void any(VectorPipes x) {
        int call = random.nextInt(40);
        long wide = random.nextInt(2) == 0 ? random.nextLong() : random.nextInt(50) - 25;
        if (call < 14) {
            first(x, call, wide);
        } else {
            second(x, call, wide);
        }
        Check.due("STATUS is one of the document's", x.status() >= 0 && x.status() <= 12, true);
    }

    private static void first(VectorPipes x, int call, long wide) {
        switch (call) {
            case 0:
                x.tray(any(), any(), any());
                break;
            case 1:
                x.write(any(), any(), wide);
                break;
            case 2:
                x.read(any(), any());
                break;
            case 3:
                x.pour(any(), any(), any(), any(), any());
                break;
            case 4:
                x.feed((int) wide, any(), any(), any(), any());
                break;
            case 5:
            case 6:
            case 7:
                Check.program(x, text());
                break;
            case 8:
                x.program(any());
                break;
            case 9:
                x.fault(any());
                break;
            case 10:
                x.many(any());
                break;
            case 11:
                x.element(any(), any());
                break;
            case 12:
                x.scalar(any());
                break;
            default:
                x.word(any());
                break;
        }
    }

    private static void second(VectorPipes x, int call, long wide) {
        switch (call) {
            case 14:
            case 15:
            case 16:
                x.put(any(), any(), wide >> random.nextInt(64), any());
                break;
            case 17:
                x.give(any(), wide, any());
                break;
            case 18:
                x.poke(any(), wide, any());
                break;
            case 19:
                x.strange(any(), any());
                break;
            case 20:
                x.pokeAll(any(), any(), any());
                break;
            case 21:
                x.peekAll(any(), any(), any());
                break;
            case 22:
                x.drop(any());
                break;
            case 23:
                x.rule(any(), any());
                break;
            case 24:
            case 25:
            case 26:
                ran(x, x.run());
                break;
            case 27:
                x.ran(any());
                break;
            case 28:
                x.time(any(), any());
                break;
            default:
                third(x, call);
                break;
        }
    }

    private static void ran(VectorPipes x, int done) {
        Check.due("run() is refused or not", done == VectorPipes.NONE, x.status() != 0);
    }

    private static void third(VectorPipes x, int call) {
        switch (call) {
            case 29:
                x.sum(any(), any());
                break;
            case 30:
                x.sums(any());
                break;
            case 31:
                x.roundOf(any(), any());
                break;
            case 32:
                x.partnerOf(any(), any());
                break;
            case 33:
                x.stalls(any(), any(), any());
                break;
            case 34:
                x.banksFor(any(), any(), any());
                break;
            case 35:
                x.worst(any(), any());
                break;
            case 36:
                x.depends(any(), any());
                break;
            case 37:
                x.swapGain(any());
                x.bestSwap();
                break;
            case 38:
                x.mark();
                break;
            default:
                x.back();
                break;
        }
    }
}
