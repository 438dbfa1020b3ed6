import java.util.ArrayList;
import java.util.List;

/**
 * Terms 1, TEXTS: every INSTRUCTION's form, token by token. What may stand at a place is given by a sign of
 * the form: R a ROW, S a SCALAR, N.. a NUMBER of at most .., M masked, else that very token.
 */
public final class FormsTest {
    private static final String[] FORMS = {"setvl N16 ;", "iota R ;", "fill R S ;", "load R at N63 by N16 ;",
        "store R at N63 by N16 ;", "gather R at N63 of R ;", "scatter R at N63 of R ;", "less R R ;", "same R R ;",
        "odd R ;", "flip ;", "pack R R ;", "count S ;", "fold S R ;", "top S R ;", "stop ;", "strip N200 ; end ;"};
    private static final String[] TWO = {"add", "sub", "mul", "div", "rem", "min", "max"};
    private static final String[] ONE = {"copy", "single", "whole"};
    private static final String[] ROWS = {"va", "vb", "vc", "vd", "ve", "vf"};
    private static final String[] SCALARS = {"sa", "sb", "sc", "sd"};
    /** What is tried at every place; of these, a form's sign says which may stand there. */
    private static final String[] TRIED = {"va", "vf", "vg", "v", "vaa", "sa", "sd", "se", "s", "a", "at", "by", "of",
        "masked", "mask", "flip", "stop", "end", "strip", "zz", "0", "16", "17", "63", "64", "200", "201", "9999",
        "00000", "12345", ";", "!", "Va", "\t", "\u00e9"};

    public static void main(String[] args) {
        for (String form : allForms()) {
            takenForms(form.split(" "));
            cutForms(form.split(" "));
            wrongForms(form.split(" "));
        }
        firstTokens();
        signs();
        blanks();
        lengths();
        limits();
        strips();
        order();
        oneBehindAnother();
        Check.end();
    }

    private static List<String> allForms() {
        List<String> all = new ArrayList<>(List.of(FORMS));
        for (String two : TWO) {
            all.add(two + " R R R ;");
            all.add(two + " R R R M ;");
        }
        for (String one : ONE) {
            all.add(one + " R R ;");
            all.add(one + " R R M ;");
        }
        return all;
    }

    private static String usual(String sign) {
        switch (sign.charAt(0)) {
            case 'R':
                return "vb";
            case 'S':
                return "sc";
            case 'N':
                return "7";
            case 'M':
                return "masked";
            default:
                return sign;
        }
    }

    private static String joined(String[] form, int at, String other, String blank) {
        StringBuilder text = new StringBuilder();
        for (int k = 0; k < form.length; k++) {
            text.append(k == 0 ? "" : blank).append(k == at ? other : usual(form[k]));
        }
        return text.toString();
    }

    private static int placeOf(String[] form, int at) {
        int place = 0;
        for (int k = 0; k < at; k++) {
            place += usual(form[k]).length() + 1;
        }
        return place;
    }

    private static void takenForms(String[] form) {
        Check.taken(joined(form, -1, "", " "), 1);
        Check.taken(joined(form, -1, "", " \n\n "), 1);
        Check.taken("\n" + joined(form, -1, "", "\n") + " ", 1);
        for (int k = 0; k < form.length; k++) {
            if (form[k].equals("R")) {
                for (String row : ROWS) {
                    Check.taken(joined(form, k, row, " "), 1);
                }
            } else if (form[k].equals("S")) {
                for (String scalar : SCALARS) {
                    Check.taken(joined(form, k, scalar, " "), 1);
                }
            } else if (form[k].startsWith("N")) {
                int most = Integer.parseInt(form[k].substring(1));
                for (String number : new String[] {"0", "0000", "1", String.valueOf(most), "0" + most}) {
                    Check.taken(joined(form, k, number, " "), 1);
                }
                Check.fault(joined(form, k, String.valueOf(most + 1), " "), 4, placeOf(form, k));
                Check.fault(joined(form, k, "9999", " "), 4, placeOf(form, k));
                Check.fault(joined(form, k, "00000", " "), 1, placeOf(form, k));
                Check.fault(joined(form, k, "-1", " "), 1, placeOf(form, k));
            }
        }
    }

    /** The text's end ahead of the last token: at the text's length, blanks and all. */
    private static void cutForms(String[] form) {
        for (int tokens = 1; tokens < form.length; tokens++) {
            StringBuilder text = new StringBuilder();
            for (int k = 0; k < tokens; k++) {
                text.append(k == 0 ? "" : " ").append(usual(form[k]));
            }
            Check.fault(text.toString(), 2, text.length());
            Check.fault(text + " \n", 2, text.length() + 2);
        }
    }

    private static void wrongForms(String[] form) {
        boolean strip = form[0].equals("strip");
        // behind "strip 7 ;" other INSTRUCTIONS may stand as well
        int last = strip ? 3 : form.length;
        for (int k = 1; k < last; k++) {
            for (String tried : TRIED) {
                int fault = faultOf(form, k, tried);
                if (fault != 0) {
                    Check.fault(joined(form, k, tried, " "), fault, placeOf(form, k));
                }
            }
        }
    }

    /** By which FAULT a token can't stand at a place; 0 if it can. */
    private static int faultOf(String[] form, int at, String token) {
        char first = token.charAt(0);
        boolean number = first >= '0' && first <= '9';
        boolean word = first >= 'a' && first <= 'z';
        if (!word && !number && first != ';' || number && token.length() > 4) {
            return 1;
        }
        switch (form[at].charAt(0)) {
            case 'R':
                return List.of(ROWS).contains(token) ? 0 : 2;
            case 'S':
                return List.of(SCALARS).contains(token) ? 0 : 2;
            case 'N':
                return !number ? 2 : Integer.parseInt(token) > Integer.parseInt(form[at].substring(1)) ? 4 : 0;
            case 'M':
                return token.equals("masked") || token.equals(";") ? 0 : 2;
            default:
                boolean perhapsMasked = form[at].equals(";") && token.equals("masked")
                    && !form[at - 1].equals("M") && masks(form[0]);
                return token.equals(form[at]) || perhapsMasked ? 0 : 2;
        }
    }

    private static boolean masks(String word) {
        return List.of(TWO).contains(word) || List.of(ONE).contains(word);
    }

    /** No INSTRUCTION begins so. */
    private static void firstTokens() {
        for (String token : TRIED) {
            if (!token.equals("flip") && !token.equals("stop") && !token.equals("strip")) {
                char first = token.charAt(0);
                boolean digits = first >= '0' && first <= '9';
                boolean known = first >= 'a' && first <= 'z' || first == ';' || digits && token.length() < 5;
                Check.fault(token, known ? 2 : 1, 0);
                Check.fault("flip; " + token + " ;", known ? 2 : 1, 6);
            }
        }
        Check.fault("setvll 1;", 2, 0);
        Check.fault("setv 1;", 2, 0);
        Check.fault("setVl 1;", 2, 0);
        Check.fault("iotava;", 2, 0);
        Check.fault("flipflip;", 2, 0);
        Check.fault("add va vb vcmasked;", 2, 10);
        Check.fault("add va vbvc;", 2, 7);
        Check.fault("load vaat 0 by 0;", 2, 5);
        Check.fault("setvl 1 2;", 2, 8);
    }

    /** Every byte alone: small letters, digits and ; begin a TOKEN, 10 and 32 are blanks. */
    private static void signs() {
        for (int sign = 0; sign < 256; sign++) {
            String text = String.valueOf((char) sign);
            if (sign == 10 || sign == 32) {
                Check.taken(text, 0);
                Check.taken("flip" + text + ";", 1);
            } else {
                boolean letter = sign >= 'a' && sign <= 'z';
                boolean digit = sign >= '0' && sign <= '9';
                boolean begins = letter || digit || sign == ';';
                Check.fault(text, begins ? 2 : 1, 0);
                Check.fault("flip;\n" + text, begins ? 2 : 1, 6);
                if (sign != ';') {
                    // a letter more is of the WORD, and so at its first
                    Check.fault("flip" + text + ";", begins ? 2 : 1, letter ? 0 : 4);
                }
            }
        }
    }

    private static void blanks() {
        Check.taken("", 0);
        Check.taken(" ", 0);
        Check.taken("\n", 0);
        Check.taken("setvl16;load va at63by16;strip200;end;", 3);
        Check.taken("setvl16;gather va at0of vb;copy va vb masked;", 3);
        Check.fault("setvl 1 6;", 2, 8);
        Check.fault("fl ip;", 2, 0);
        Check.fault("add va vb vc mask ed;", 2, 13);
    }

    /** 900 bytes and no more; what is behind the first n bytes is not read. */
    private static void lengths() {
        VectorPipes x = new VectorPipes();
        String text = "flip;" + " ".repeat(890) + "stop;";
        Check.feed(x, text);
        Check.fine(x, "program(900)", x.program(900), 2);
        Check.feed(x, text);
        Check.refused(x, "program(899)", x.program(899), 10);
        Check.due("fault(0) of 899", x.fault(0), 2);
        Check.due("fault(1) of 899", x.fault(1), 899);
        int[] kinds = {0, 2, 2, 2, 2, 0, 2, 2, 2, 2, 0};
        int[] places = {-1, 0, 0, 0, 4, -1, 5, 5, 5, 9, -1};
        for (int n = 0; n <= 10; n++) {
            Check.feed(x, "flip;stop;");
            Check.due("program(" + n + ")", x.program(n), kinds[n] == 0 ? n / 5 : -1);
            Check.due("status() of program(" + n + ")", x.status(), kinds[n] == 0 ? 0 : 10);
            Check.due("fault(0) of program(" + n + ")", x.fault(0), kinds[n]);
            Check.due("fault(1) of program(" + n + ")", x.fault(1), places[n]);
        }
        Check.feed(x, "setvl 12345;");
        Check.refused(x, "program(9) of setvl 123", x.program(9), 10);
        Check.due("fault(0) of setvl 123", x.fault(0), 4);
        Check.feed(x, "setvl 12345;");
        x.program(10);
        Check.due("fault(0) of setvl 1234", x.fault(0), 4);
        Check.feed(x, "setvl 12345;");
        x.program(11);
        Check.due("fault(0) of setvl 12345", x.fault(0), 1);
        Check.due("fault(1) of setvl 12345", x.fault(1), 6);
    }

    /** 30 INSTRUCTIONS; strip counts, end does not; the 31st at its WORD, of whichever kind. */
    private static void limits() {
        String ahead = "flip;".repeat(30);
        Check.taken(ahead, 30);
        for (String form : allForms()) {
            Check.fault(ahead + joined(form.split(" "), -1, "", " "), 6, 150);
            Check.fault(ahead + " " + form.split(" ")[0], 6, 151);
        }
        Check.fault(ahead + "end;", 2, 150);
        Check.fault(ahead + "va;", 2, 150);
        Check.fault(ahead + ";", 2, 150);
        Check.fault(ahead + "99999;", 1, 150);
        String open = "strip 1;" + "flip;".repeat(29);
        Check.taken(open + "end;", 30);
        Check.fault(open, 2, 153);
        Check.fault(open + "flip;", 6, 153);
        Check.fault(open + "strip 1;", 6, 153);
        Check.fault(open + "end;flip;", 6, 157);
        Check.fault(open + "end;end;", 2, 157);
        Check.taken("strip 1;end;".repeat(30), 30);
        Check.fault("strip 1;end;".repeat(30) + "strip 1;end;", 6, 360);
    }

    private static void strips() {
        for (String form : allForms()) {
            String one = joined(form.split(" "), -1, "", " ");
            if (form.startsWith("strip")) {
                Check.fault("strip 3;" + one + "end;", 7, 8);
            } else {
                Check.taken("strip 3;" + one + "end;", 2);
                Check.taken("strip 3;" + one + one + "end;" + one, 4);
                Check.fault("strip 3;" + one, 2, 8 + one.length());
                Check.fault(one + "end;", 2, one.length());
            }
        }
        Check.taken("strip 3;end;", 1);
        Check.fault("strip 3;end", 2, 11);
        Check.fault("strip 3;end end;", 2, 12);
        Check.fault("strip 3;end 3;", 2, 12);
        Check.fault("strip 3 end;", 2, 8);
        Check.fault("strip;", 2, 5);
        Check.fault("strip 3;end;end;", 2, 12);
        Check.fault("end;strip 3;", 2, 0);
        Check.fault("strip 3;strip", 7, 8);
        Check.fault("strip 3;strip 999;", 7, 8);
        Check.taken("strip 3;end;strip 3;end;", 2);
    }

    /** The first FAULT along the text, and of one TOKEN the least kind. */
    private static void order() {
        Check.fault("setvl 17; !", 4, 6);
        Check.fault("setvl ! 17;", 1, 6);
        Check.fault("va ! setvl 17;", 2, 0);
        Check.fault("strip 1; setvl 17; strip 1;", 4, 15);
        Check.fault("strip 1; strip 201;", 7, 9);
        Check.fault("strip 201; strip 1;", 4, 6);
        Check.fault("load 64 at 64 by 17;", 2, 5);
        Check.fault("load va at 64 by 17;", 4, 11);
        Check.fault("load va at 63 by 17;", 4, 17);
        Check.fault("flip;".repeat(29) + "setvl 17; flip; flip;", 4, 151);
        Check.fault("setvl 999999", 1, 6);
        Check.fault("setvl 17", 4, 6);
        Check.fault("setvl 16", 2, 8);
    }

    /** What a text with a FAULT began is gone with it. */
    private static void oneBehindAnother() {
        String[] begun = {"strip 1;", "strip 1; flip", "setvl", "load va at 1 by", "add va vb vc masked", "!", "flip;".repeat(31)};
        for (String text : begun) {
            VectorPipes x = new VectorPipes();
            Check.refused(x, "program of " + text, Check.program(x, text), 10);
            Check.refused(x, "end; behind " + text, Check.program(x, "end;"), 10);
            Check.due("fault(0)", x.fault(0), 2);
            Check.due("fault(1)", x.fault(1), 0);
            Check.refused(x, "1; behind " + text, Check.program(x, "1;"), 10);
            Check.due("fault(0)", x.fault(0), 2);
            Check.refused(x, "; behind " + text, Check.program(x, ";"), 10);
            Check.due("fault(1)", x.fault(1), 0);
            Check.program(x, text);
            Check.fine(x, "a strip behind " + text, Check.program(x, "strip 2; copy va vb; end;"), 2);
            Check.program(x, text);
            Check.fine(x, "nothing behind " + text, x.program(0), 0);
        }
    }
}
