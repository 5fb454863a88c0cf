import java.nio.charset.StandardCharsets;
import java.nio.file.Files;
import java.nio.file.Path;
import java.util.ArrayList;
import java.util.HashMap;
import java.util.List;
import java.util.Map;
import java.util.TreeMap;
import java.util.TreeSet;
import java.util.regex.Matcher;
import java.util.regex.Pattern;

/** A rough look at the source by LANGUAGE.md: what can be told from its lines alone. Run where README.md stands. */
public final class RulesTest {
    private static final int METHOD_LINES = 60;
    private static final int CLASSES = 12;
    private static final int DEPTH = 8;
    private static final Pattern METHOD = Pattern.compile(
            "^(    |        )(?:public |private |static |final )*[A-Za-z\\[\\]]+ ?([A-Za-z]*)\\(([^()]*)\\) \\{$");
    private static final Pattern CALL = Pattern.compile("\\b([A-Za-z]+)\\(");

    private static final Map<String, TreeSet<String>> CALLS = new TreeMap<>();
    private static final Map<String, Integer> DEPTHS = new HashMap<>();

    public static void main(String[] args) throws Exception {
        String source = Files.readString(Path.of("src/main/java/LastPebble.java"), StandardCharsets.US_ASCII);
        String code = source.replaceAll("(?s)/\\*.*?\\*/", "").replaceAll("//[^\n]*", "")
                .replaceAll("\"[^\"\n]*\"", "\"\"").replaceAll("'[^'\n]+'", "'x'");
        String[] forbidden = {"throw", "try", "catch", "synchronized", "assert", "import", "package", "instanceof",
            "protected", "volatile", "native", "transient", "strictfp", "double", "float", "var", "yield", "finally",
            "Exact", "equals", "hashCode", "toString", "getClass", "System\\.out", "System\\.exit", "Object",
            "ArrayList", "->", "::", "static \\{", "\" \\+", "@"};
        for (String word : forbidden) {
            boolean signs = !Character.isLetter(word.charAt(0)) || word.contains("{");
            Matcher m = Pattern.compile(signs ? word : "\\b" + word + "\\b").matcher(code);
            Check.due("uses of " + word, m.find(), false);
        }
        Matcher classes = Pattern.compile("\\b(class|enum|interface|record) [A-Z]").matcher(code);
        int many = 0;
        while (classes.find()) {
            many++;
        }
        Check.due("classes, " + many, many <= CLASSES, true);
        methods(code.split("\n"));
        for (String name : CALLS.keySet()) {
            int depth = depth(name, new ArrayList<>());
            Check.due("calls from " + name + " go " + depth + " deep", depth <= DEPTH, true);
        }
        onlyConstructorsMake(code);
        Check.end();
    }

    private static void methods(String[] lines) {
        for (int i = 0; i < lines.length; i++) {
            Matcher m = METHOD.matcher(lines[i]);
            if (m.matches()) {
                int end = i;
                TreeSet<String> calls = new TreeSet<>();
                while (!lines[end].equals(m.group(1) + "}")) {
                    Matcher call = CALL.matcher(end == i ? "" : lines[end]);
                    while (call.find()) {
                        calls.add(call.group(1));
                    }
                    end++;
                }
                Check.due("lines of " + m.group(2), end - i < METHOD_LINES, true);
                int parameters = m.group(3).isEmpty() ? 0 : m.group(3).split(",").length;
                Check.due("parameters of " + m.group(2), parameters <= 7, true);
                CALLS.computeIfAbsent(m.group(2), name -> new TreeSet<>()).addAll(calls);
            }
        }
        Check.due("methods found, " + CALLS.size(), CALLS.size() > 150, true);
    }

    /** How many calls stand open at once at most, by names alone; a name of the library counts, too. */
    private static int depth(String name, List<String> open) {
        if (List.of("if", "for", "while", "switch", "return", "super", "this").contains(name)) {
            return 0;
        }
        Check.due("recursion by " + open + " " + name, open.contains(name), false);
        if (open.contains(name) || DEPTHS.containsKey(name)) {
            return DEPTHS.getOrDefault(name, 0);
        }
        open.add(name);
        int deepest = 0;
        for (String called : CALLS.getOrDefault(name, new TreeSet<>())) {
            deepest = Math.max(deepest, depth(called, open));
        }
        open.remove(name);
        DEPTHS.put(name, deepest + 1);
        return deepest + 1;
    }

    private static void onlyConstructorsMake(String code) {
        boolean inside = false;
        String end = "";
        for (String line : code.split("\n")) {
            if (line.matches("    (    )?(public )?[A-Z][A-Za-z]*\\([A-Za-z ]*\\) \\{")) {
                inside = true;
                end = line.replaceAll("\\S.*", "") + "}";
            } else if (line.equals(end)) {
                inside = false;
            }
            boolean field = line.matches("    (    )?(private )?(final )?[A-Za-z\\[\\]]+ [a-zA-Z]+ = new .*;");
            if (line.contains("new ")) {
                Check.due("made in a call: " + line.trim(), inside || field, true);
            }
        }
    }
}
