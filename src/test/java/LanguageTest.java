import java.nio.file.Files;
import java.nio.file.Path;
import java.util.ArrayList;
import java.util.List;
import java.util.regex.Matcher;
import java.util.regex.Pattern;

/** Rules of LANGUAGE.md that can be seen from the program's lines. Runs in the project's folder. */
public final class LanguageTest {
    private static final String NAME = "[A-Za-z_][A-Za-z0-9_]*";

    public static void main(String[] args) throws Exception {
        String text = Files.readString(Path.of("src/main/java/GlassLaces.java"));
        for (int k = 0; k < text.length(); k++) {
            Check.due("sign at " + k, text.charAt(k) < 127, true);
        }
        String code = text.replaceAll("(?s)/\\*.*?\\*/", "").replaceAll("//[^\n]*", "")
                .replaceAll("\"[^\"]*\"", "\"\"").replaceAll("'[^']*'", "' '");
        for (String word : List.of("throw", "throws", "try", "catch", "synchronized", "assert", "record", "Object",
                "System.out", "Exact", "hashCode", "toString", "protected", "native", "var")) {
            Check.due(word, Pattern.compile("\\b" + Pattern.quote(word) + "\\b").matcher(code).find(), false);
        }
        for (String sign : List.of("->", "::", "\" +", "+ \"", "static {", "@")) {
            Check.due(sign, code.contains(sign), false);
        }
        Matcher library = Pattern.compile("\\b(import [^;]*;|System\\.\\w+|Arrays\\.\\w+|Math\\.\\w+|Integer\\.\\w+)")
                .matcher(code);
        while (library.find()) {
            Check.due(library.group(), List.of("import java.util.Arrays;", "System.arraycopy", "Arrays.fill", "Math.max",
                    "Math.min", "Math.abs", "Integer.bitCount", "Integer.compare").contains(library.group()), true);
        }
        methods(code);
        Check.finish();
    }

    /** Methods stay short, and calls go at most eight deep (by names; copyFrom goes three deep by itself). */
    private static void methods(String code) {
        Matcher head = Pattern.compile("\n( {4}| {8})[A-Za-z][A-Za-z0-9_\\[\\] ]* (" + NAME
                + ")\\(([^)]*)\\) \\{\n(.*?)\n\\1\\}", Pattern.DOTALL).matcher(code);
        List<String> names = new ArrayList<>();
        List<String> bodies = new ArrayList<>();
        while (head.find()) {
            names.add(head.group(2));
            bodies.add(head.group(4));
            Check.due(head.group(2) + " is short", head.group(4).split("\n").length <= 58, true);
            Check.due(head.group(2) + " has few parameters", head.group(3).split(",").length <= 7, true);
        }
        Check.due("methods are found", names.size() > 120, true);
        int[] depths = new int[names.size()];
        for (int round = 0; round < 20; round++) {
            for (int k = 0; k < depths.length; k++) {
                depths[k] = 1 + deepestCall(names.get(k), bodies.get(k), names, depths);
            }
        }
        for (int k = 0; k < depths.length; k++) {
            Check.due("calls from " + names.get(k) + " go " + depths[k] + " deep", depths[k] <= 8, true);
        }
    }

    private static int deepestCall(String name, String body, List<String> names, int[] depths) {
        int deepest = 0;
        Matcher call = Pattern.compile("\\b(" + NAME + ")\\(").matcher(body);
        while (call.find()) {
            for (int k = 0; k < names.size(); k++) {
                if (names.get(k).equals(call.group(1)) && !name.equals(call.group(1))) {
                    deepest = Math.max(deepest, depths[k]);
                }
            }
        }
        return deepest;
    }
}
