import java.io.IOException;
import java.lang.reflect.Method;
import java.lang.reflect.Modifier;
import java.nio.file.DirectoryStream;
import java.nio.file.Files;
import java.nio.file.Path;
import java.util.ArrayList;
import java.util.List;
import java.util.Set;
import java.util.TreeSet;
import java.util.regex.Matcher;
import java.util.regex.Pattern;

/** README.md tells what is so: its example, its tables. Runs in the project's folder. */
public final class ReadmeTest {
    private static final Set<String> OF_NO_SORT = Set.of("feed", "end", "text", "fault", "count", "image", "again");

    /** No number of anything; two such numbers are no bound's either. */
    private static final int NOTHING = 1000;

    public static void main(String[] args) throws Exception {
        String page = Files.readString(Path.of("README.md"));
        example(page);
        sorts(rows(page, "| sort | what |"));
        noneSuch(rows(page, "| answer | calls |"));
        tests(rows(page, "| test | promises |"));
        Check.finish();
    }

    private static void example(String page) throws Exception {
        Path folder = Files.createTempDirectory("readme");
        Path file = folder.resolve("Example.java");
        Path printed = folder.resolve("printed");
        Files.writeString(file, block(page, "java"));
        String java = Path.of(System.getProperty("java.home"), "bin", "java").toString();
        int code = new ProcessBuilder(java, "-cp", System.getProperty("java.class.path"), file.toString())
                .redirectErrorStream(true).redirectOutput(printed.toFile()).start().waitFor();
        Check.due("exit code of the example", code, 0);
        Check.dueRow("the example", Files.readString(printed), block(page, "text").trim());
        Files.delete(file);
        Files.delete(printed);
        Files.delete(folder);
    }

    private static String block(String page, String kind) {
        Matcher block = Pattern.compile("(?s)\n```" + kind + "\n(.*?)```").matcher(page);
        boolean found = block.find();
        Check.due("there is a block of " + kind, found, true);
        return found ? block.group(1) : "";
    }

    /** The rows of the table with this head, each in its cells. */
    private static List<String[]> rows(String page, String head) {
        List<String[]> rows = new ArrayList<>();
        int at = page.indexOf("\n" + head);
        String[] lines = at < 0 ? new String[0] : page.substring(at + 1).split("\n");
        for (int k = 2; k < lines.length && lines[k].startsWith("|"); k++) {
            rows.add(lines[k].substring(1, lines[k].lastIndexOf('|')).trim().split(" \\| "));
        }
        Check.due("there is a table of " + head, rows.size() > 1, true);
        return rows;
    }

    private static Set<String> names(String cell) {
        Set<String> names = new TreeSet<>();
        Matcher name = Pattern.compile("`(\\w+)`").matcher(cell);
        while (name.find()) {
            Check.due(name.group(1) + " is told once", names.add(name.group(1)), true);
        }
        return names;
    }

    private static List<Method> face() {
        List<Method> face = new ArrayList<>();
        for (Method call : GlassLaces.class.getDeclaredMethods()) {
            if (Modifier.isPublic(call.getModifiers())) {
                face.add(call);
            }
        }
        return face;
    }

    private static void sorts(List<String[]> rows) {
        Set<String> words = new TreeSet<>();
        Set<String> asked = new TreeSet<>(OF_NO_SORT);
        for (String[] row : rows) {
            words.addAll(names(row[2]));
            for (String call : names(row[4])) {
                Check.due(call + " is told once", asked.add(call), true);
            }
        }
        for (Method call : face()) {
            Check.due(call.getName() + " is told of", asked.remove(call.getName()), true);
        }
        Check.due(asked + " are calls", asked.isEmpty(), true);
        Check.due("how many sorts", rows.size(), 6);
        for (String[] row : rows) {
            int sort = Integer.parseInt(row[0]);
            for (String word : words) {
                // Its line breaks off behind the word, or at it, if no line of the sort begins so.
                int place = names(row[2]).contains(word) ? word.length() : 0;
                Check.dueFault(sort, word, 1, place);
            }
            GlassLaces x = new GlassLaces();
            for (int k = 0; k < Integer.parseInt(row[3]); k++) {
                Check.due("text " + k + " of sort " + sort, x.text(sort, -1), k);
            }
            Check.due("one too many of sort " + sort, x.text(sort, -1), -2);
        }
    }

    private static void noneSuch(List<String[]> rows) throws Exception {
        for (Method call : face()) {
            String told = "";
            for (String[] row : rows) {
                told += names(row[1]).contains(call.getName()) ? row[0] : "";
            }
            // A full tape, to which nothing can come.
            GlassLaces x = new GlassLaces();
            Check.feed(x, Check.times(600, " "));
            Object[] with = new Object[call.getParameterCount()];
            for (int k = 0; k < with.length; k++) {
                with[k] = call.getParameterTypes()[k] == boolean.class ? false : (Object) NOTHING;
            }
            Check.dueRow(call.getName() + " of nothing", call.invoke(x, with).toString(), told);
        }
    }

    private static void tests(List<String[]> rows) throws IOException {
        Set<String> told = new TreeSet<>();
        for (String[] row : rows) {
            told.addAll(List.of(row[0].split(", ")));
        }
        Set<String> there = new TreeSet<>();
        try (DirectoryStream<Path> files = Files.newDirectoryStream(Path.of("src/test/java"), "*Test.java")) {
            for (Path file : files) {
                there.add(file.getFileName().toString().replace(".java", ""));
            }
        }
        Check.dueRow("tests told of", told.toString(), there.toString());
    }
}
