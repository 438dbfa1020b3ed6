import java.lang.reflect.Executable;
import java.lang.reflect.Field;
import java.lang.reflect.Modifier;
import java.nio.file.Files;
import java.nio.file.Path;
import java.util.ArrayList;
import java.util.List;
import java.util.Set;
import java.util.regex.Matcher;
import java.util.regex.Pattern;

/** Those rules of LANGUAGE.md that can be counted or looked for in the class and its text. */
public final class LanguageTest {
    private static final String FILE = "src/main/java/VectorPipes.java";
    private static final Set<String> IMPORTS = Set.of("java.util.Arrays", "java.util.ArrayList", "java.util.List",
        "java.util.Iterator", "java.util.NoSuchElementException");
    /** By rule: lambdas, method references, what rule 6 and rule 13 rule out, library calls that rule 4 has not. */
    private static final String[] RULED_OUT = {"->", "::", "\\bsynchronized\\b", "\\bassert\\b", "\\bfinally\\b", "\\bpackage\\b",
        "\\bvolatile\\b", "\\bnative\\b", "\\bThread\\b", "\\bRandom\\b", "\\bObject\\b", "\\bClass\\b", "\\bDouble\\b",
        "\\bFloat\\b", "\\bCharacter\\b", "Exact\\(", "\\.equals\\(", "\\.hashCode\\(", "\\.toString\\(", "\\.format\\(",
        "\\bstatic \\{", "System\\.(?!arraycopy\\()", "Arrays\\.(?!fill\\(|copyOf\\(|copyOfRange\\()",
        "Math\\.(?!max\\(|min\\(|abs\\(|floorDiv\\(|floorMod\\()", "\\bjava\\.(?!util\\.)"};

    public static void main(String[] args) throws Exception {
        List<String> lines = Files.readAllLines(Path.of(FILE));
        text(lines);
        methods(lines);
        List<Class<?>> all = new ArrayList<>(List.of(VectorPipes.class));
        all.addAll(List.of(VectorPipes.class.getDeclaredClasses()));
        Check.due("classes are at most twelve", all.size() <= 12, true);
        for (Class<?> one : all) {
            members(one);
        }
        Check.end();
    }

    private static void text(List<String> lines) {
        for (int k = 0; k < lines.size(); k++) {
            String name = "line " + (k + 1) + ": " + lines.get(k);
            String line = lines.get(k).replaceAll("//.*|^\\s*/?\\*.*", "").replaceAll("\"[^\"]*\"", "\"\"");
            if (line.startsWith("import")) {
                Check.due(name, IMPORTS.contains(line.replaceAll("import |;", "")), true);
                continue;
            }
            for (String out : RULED_OUT) {
                Check.due(name + " has no " + out, Pattern.compile(out).matcher(line).find(), false);
            }
            Check.due(name + " joins no texts by +", line.contains("\" +") || line.contains("+ \""), false);
            for (int c = 0; c < lines.get(k).length(); c++) {
                Check.due(name + " has signs below 128", lines.get(k).charAt(c) < 128, true);
            }
        }
    }

    /** A method is at most sixty lines long: from its head to the brace that stands below it. */
    private static void methods(List<String> lines) {
        Pattern head = Pattern.compile("^( {4}| {8})(?! |if |for |while |switch )[\\w<>\\[\\], ]+\\(.*\\) \\{$");
        int found = 0;
        for (int k = 0; k < lines.size(); k++) {
            Matcher heads = head.matcher(lines.get(k));
            if (heads.matches()) {
                int end = k;
                while (end < lines.size() && !lines.get(end).equals(heads.group(1) + "}")) {
                    end++;
                }
                Check.due("sixty lines from line " + (k + 1) + " on", end - k < 60, true);
                found++;
            }
        }
        Check.due("methods are found", found > 100, true);
    }

    private static void members(Class<?> one) {
        int fields = 0;
        for (Field field : one.getDeclaredFields()) {
            boolean shared = Modifier.isStatic(field.getModifiers());
            fields += shared || field.isSynthetic() ? 0 : 1;
            Check.due(field + " is final, if it is static", !shared || Modifier.isFinal(field.getModifiers()), true);
        }
        Check.due(one + " has some twenty fields", fields <= 20, true);
        List<Executable> all = new ArrayList<>(List.of(one.getDeclaredMethods()));
        all.addAll(List.of(one.getDeclaredConstructors()));
        for (Executable method : all) {
            Check.due(method + " takes at most seven", method.isSynthetic() || one.isEnum() || method.getParameterCount() <= 7, true);
            Check.due(method + " tells of no exceptions", method.getExceptionTypes().length, 0);
        }
    }
}
