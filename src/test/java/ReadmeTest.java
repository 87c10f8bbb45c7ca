import java.io.File;
import java.io.IOException;
import java.lang.reflect.Method;
import java.lang.reflect.Modifier;
import java.nio.charset.StandardCharsets;
import java.nio.file.Files;
import java.nio.file.Path;
import java.util.ArrayList;
import java.util.List;
import java.util.Map;
import java.util.TreeMap;
import java.util.regex.Matcher;
import java.util.regex.Pattern;

/** What README.md shows: its program answers as it says there, its table is the face's, its commands pass. */
final class ReadmeTest {
    private static final Path OUT = Path.of("build", "readme");
    private static final Pattern ASKED =
        Pattern.compile("(?:(int|boolean|double) (\\w+) = )?(x\\.\\w+\\(.*\\)); +// (.*)");
    private static final Pattern MADE = Pattern.compile("Connectory x = new Connectory\\(\\);|x\\.prices\\([^)]*\\);");
    private static final String THROWS = "throws ";
    private static final String[] EXCEPTIONS =
        {"IndexOutOfBoundsException", "IllegalArgumentException", "IllegalStateException"};

    private ReadmeTest() {
    }

    public static void main(String[] args) throws IOException, InterruptedException {
        String text = Files.readString(Path.of("README.md"), StandardCharsets.UTF_8);
        List<String> program = linesOf(text, "java");
        allCallsAreShown(program);
        answers(program);
        thrown(text);
        commands(text);
        Check.end("ReadmeTest");
    }

    // ---- the blocks of the page.

    private static List<String> blocks(String text, String kind) {
        List<String> blocks = new ArrayList<>();
        Matcher found = Pattern.compile("```" + kind + "\n(.*?)```", Pattern.DOTALL).matcher(text);
        while (found.find()) {
            blocks.add(found.group(1));
        }
        Check.due("blocks of " + kind, !blocks.isEmpty());
        return blocks;
    }

    private static List<String> linesOf(String text, String kind) {
        List<String> lines = new ArrayList<>();
        for (String block : blocks(text, kind)) {
            for (String line : block.split("\n")) {
                if (!line.isBlank()) {
                    lines.add(line);
                }
            }
        }
        return lines;
    }

    private static Map<String, Method> face() {
        Map<String, Method> face = new TreeMap<>();
        for (Method method : Connectory.class.getDeclaredMethods()) {
            if (Modifier.isPublic(method.getModifiers())) {
                face.put(method.getName(), method);
            }
        }
        return face;
    }

    // ---- its program.

    private static void allCallsAreShown(List<String> program) {
        String all = String.join("\n", program);
        for (String name : face().keySet()) {
            Check.due("README.md shows " + name, all.contains("x." + name + "("));
        }
        for (String exception : EXCEPTIONS) {
            Check.due("README.md shows " + exception, all.contains(THROWS + exception));
        }
    }

    /** The page's lines as a program of its own, with each answer checked. */
    private static void answers(List<String> program) throws IOException, InterruptedException {
        StringBuilder text = new StringBuilder("final class Readme {\n    public static void main(String[] args) {\n");
        for (String line : program) {
            text.append("        ").append(checked(line)).append('\n');
        }
        text.append("        Check.end(\"Readme\");\n    }\n}\n");
        Files.createDirectories(OUT);
        Path file = OUT.resolve("Readme.java");
        Files.writeString(file, text.toString(), StandardCharsets.UTF_8);
        String classes = System.getProperty("java.class.path");
        passes("javac", "-cp", classes, "-d", OUT.toString(), file.toString());
        passes("java", "-cp", classes + File.pathSeparator + OUT, "Readme");
    }

    private static String checked(String line) {
        if (MADE.matcher(line).matches()) {
            return line;
        }
        Matcher asked = ASKED.matcher(line);
        boolean found = asked.matches();
        Check.due("a call with its answer: " + line, found);
        if (!found) {
            return "";
        }
        String call = asked.group(3);
        String due = dueOf(asked.group(4));
        if (due.startsWith(THROWS)) {
            String name = due.substring(THROWS.length());
            return "Check.due(\"" + call + "\", Check.thrownBy(() -> " + call + "), \"" + name + "\");";
        }
        String value = asked.group(2) == null ? call : asked.group(2);
        String made = asked.group(2) == null ? "" : asked.group(1) + " " + value + " = " + call + "; ";
        return made + "Check.due(\"" + call + "\", String.valueOf(" + value + "), \"" + due + "\");";
    }

    /** The answer ahead of the colon behind which it is explained; a constant counts as its number. */
    private static String dueOf(String comment) {
        String due = comment.split(":")[0].trim();
        switch (due) {
            case "NONE": return "" + Connectory.NONE;
            case "HELD": return "" + Connectory.HELD;
            case "BOUGHT": return "" + Connectory.BOUGHT;
            case "DROPPED": return "" + Connectory.DROPPED;
            case "CLAIMED": return "" + Connectory.CLAIMED;
            default: return due;
        }
    }

    // ---- its table.

    /** Each call has a row; a cell says something just where the call declares the exception above it. */
    private static void thrown(String text) {
        String[] head = {"call", EXCEPTIONS[0], EXCEPTIONS[1], EXCEPTIONS[2]};
        Map<String, Method> face = face();
        int rows = 0;
        for (String line : text.split("\n")) {
            String[] cells = line.startsWith("|") ? cellsOf(line) : new String[0];
            if (cells.length == head.length && cells[0].startsWith("`")) {
                rows++;
                row(cells, face.remove(cells[0].replace("`", "")));
            } else if (cells.length == head.length && !cells[0].startsWith("-")) {
                Check.due("the head of the table", String.join("|", cells), String.join("|", head));
            }
        }
        Check.due("rows of the table", rows, face().size());
        Check.due("calls without a row", face.keySet().toString(), "[]");
    }

    private static void row(String[] cells, Method method) {
        Check.due("a call of the face: " + cells[0], method != null);
        if (method == null) {
            return;
        }
        StringBuilder told = new StringBuilder();
        for (int i = 0; i < EXCEPTIONS.length; i++) {
            told.append(cells[i + 1].isEmpty() ? "" : EXCEPTIONS[i] + " ");
        }
        StringBuilder declared = new StringBuilder();
        for (Class<?> type : method.getExceptionTypes()) {
            declared.append(type.getSimpleName()).append(' ');
        }
        Check.due(cells[0] + " throws", told.toString(), declared.toString());
    }

    private static String[] cellsOf(String line) {
        String[] cells = line.substring(1, line.lastIndexOf('|')).split("\\|", -1);
        for (int i = 0; i < cells.length; i++) {
            cells[i] = cells[i].trim();
        }
        return cells;
    }

    // ---- its commands.

    private static void commands(String text) throws IOException, InterruptedException {
        boolean all = false;
        for (String block : blocks(text, "sh")) {
            if (block.trim().equals(".ci/run")) {
                // It is what runs this test.
                all = Files.isExecutable(Path.of(".ci", "run"));
            } else {
                passes("sh", "-e", "-c", block);
            }
        }
        Check.due("README.md tells how to run all tests", all);
    }

    private static void passes(String... command) throws IOException, InterruptedException {
        Process process = new ProcessBuilder(command).redirectErrorStream(true).start();
        String said = new String(process.getInputStream().readAllBytes(), StandardCharsets.UTF_8);
        int code = process.waitFor();
        Check.due(command[0] + " " + command[command.length - 1] + " ends with " + code + ": " + said, code == 0);
    }
}
