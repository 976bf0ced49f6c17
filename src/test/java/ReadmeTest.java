import java.io.File;
import java.net.URL;
import java.net.URLClassLoader;
import java.nio.file.Files;
import java.nio.file.Path;
import java.util.ArrayList;
import java.util.List;
import java.util.TreeSet;
import java.util.regex.Matcher;
import java.util.regex.Pattern;

/**
 * README.md: the calls that it shows are compiled as they stand there, made, and held against the answers behind them;
 * its tables are held against the document's face.
 */
public final class ReadmeTest {

    private static final Path CALLS = Path.of("build", "readme", "ReadmeCalls.java");
    private static final Pattern CALL = Pattern.compile("((\\w+)\\.(\\w+)\\(.*\\));\\s*// ([^:]+)(: .+)?");
    private static final Pattern WITHOUT_ANSWER =
        Pattern.compile("SilentMonks \\w+ = new SilentMonks\\(\\);|append\\(\\w+, .*\\);|\\w+\\.save\\(.*\\);");

    private static final StringBuilder METHODS = new StringBuilder();
    private static final StringBuilder STATEMENTS = new StringBuilder();
    private static final TreeSet<String> SHOWN_CALLS = new TreeSet<>();
    private static final TreeSet<String> SHOWN_ANSWERS = new TreeSet<>();

    public static void main(String[] args) throws Exception {
        String readme = Files.readString(Path.of("README.md"));
        String document = Files.readString(Path.of("../shared/DOC.md"));
        blocks(readme);
        callsAnswerAsShown();
        int from = document.indexOf("public final class SilentMonks {");
        String face = document.substring(from, document.indexOf("```", from));
        eachCallIsTold(readme, face);
        eachConstantIsTold(readme, face);
        eachAnswerIsShown();
        grammarIsTheDocuments(readme, document);
        eachTestIsTold(readme);
        Kit.end();
    }

    // ---- the calls that it shows

    /** Sorts the lines of all blocks of Java: methods, calls with an answer, and the few calls that may have none. */
    private static void blocks(String readme) {
        Matcher block = Pattern.compile("(?s)```java\n(.*?)```").matcher(readme);
        int blocks = 0;
        while (block.find()) {
            blocks++;
            if (block.group(1).startsWith("static ")) {
                METHODS.append(block.group(1));
            } else {
                for (String line : block.group(1).split("\n")) {
                    statement(line);
                }
            }
        }
        Kit.due("blocks of Java, more than one", blocks > 1, true);
    }

    private static void statement(String line) {
        Matcher call = CALL.matcher(line);
        if (call.matches()) {
            String made = call.group(1);
            SHOWN_CALLS.add(call.group(3));
            SHOWN_ANSWERS.add(call.group(4));
            STATEMENTS.append("shown(\"").append(made).append("\", () -> ").append(made).append(", \"")
                .append(call.group(4)).append("\");\n");
        } else {
            Kit.due("a line that needs no answer: " + line, WITHOUT_ANSWER.matcher(line).matches(), true);
            STATEMENTS.append(line).append('\n');
            if (line.contains(".save(")) {
                SHOWN_CALLS.add("save");
            }
        }
    }

    private static void callsAnswerAsShown() throws Exception {
        Files.createDirectories(CALLS.getParent());
        Files.writeString(CALLS, "public final class ReadmeCalls {\n"
            + "public static final java.util.List<String[]> ANSWERS = new java.util.ArrayList<>();\n"
            + "static void shown(String call, java.util.concurrent.Callable<Object> made, String due) {\n"
            + "String answer;\n"
            + "try { answer = String.valueOf(made.call()); } catch (Exception e) { answer = e.getClass().getSimpleName(); }\n"
            + "ANSWERS.add(new String[] {call, answer, due});\n}\n"
            + METHODS + "public static void make() {\n" + STATEMENTS + "}\n}\n");
        String directory = CALLS.getParent().toString();
        int failed = new ProcessBuilder("javac", "--release", "17", "-cp", System.getProperty("java.class.path"), "-d",
            directory, CALLS.toString()).inheritIO().start().waitFor();
        Kit.due("the calls of README.md are compiled", failed, 0);
        if (failed != 0) {
            return;
        }
        URL[] place = {new File(directory).toURI().toURL()};
        try (URLClassLoader loader = new URLClassLoader(place, ReadmeTest.class.getClassLoader())) {
            Class<?> calls = loader.loadClass("ReadmeCalls");
            calls.getMethod("make").invoke(null);
            for (Object row : (List<?>) calls.getField("ANSWERS").get(null)) {
                String[] answer = (String[]) row;
                Kit.due("README.md shows " + answer[0], answer[1], answer[2]);
            }
        }
    }

    /** Each call of the face, each error code, each reason of a refusal and each exception is among what is shown. */
    private static void eachAnswerIsShown() {
        for (int code = SilentMonks.SYNTAX_ERROR; code >= SilentMonks.REFUSED; code--) {
            Kit.due("README.md shows the code " + code, SHOWN_ANSWERS.contains("" + code), true);
        }
        for (int refusal = -11; refusal >= -21; refusal--) {
            Kit.due("README.md shows the refusal " + refusal, SHOWN_ANSWERS.contains("" + refusal), true);
        }
        for (String exception : new String[] {"IndexOutOfBounds", "IllegalArgument", "IllegalState"}) {
            Kit.due("README.md shows " + exception, SHOWN_ANSWERS.contains(exception + "Exception"), true);
        }
    }

    // ---- its tables

    private static void eachCallIsTold(String readme, String face) {
        Matcher line = Pattern.compile("public (\\w+) (\\w+)\\(([^)]*)\\)(?: throws ([^;]+))?;").matcher(face);
        TreeSet<String> told = new TreeSet<>();
        while (line.find()) {
            String call = line.group(2) + "(" + line.group(3).replaceAll("\\b(int|boolean) ", "") + ")";
            told.add(call);
            Matcher row = Pattern.compile("(?m)^\\| `" + Pattern.quote(call) + "` \\|.+\\|(.*)\\|$").matcher(readme);
            boolean isThere = row.find();
            Kit.due("README.md has a row for " + call, isThere, true);
            if (isThere) {
                Kit.due("what " + call + " throws, in README.md", exceptionsOf(row.group(1)),
                    line.group(4) == null ? List.of() : List.of(line.group(4).split(", ")));
            }
            Kit.due("README.md shows a call of " + call, SHOWN_CALLS.contains(line.group(2)), true);
        }
        Matcher row = Pattern.compile("(?m)^\\| `(\\w+\\([^`]*\\))` \\|").matcher(readme);
        TreeSet<String> rows = new TreeSet<>();
        while (row.find()) {
            rows.add(row.group(1));
        }
        Kit.due("the calls of README.md's table", rows, told);
    }

    private static List<String> exceptionsOf(String column) {
        List<String> exceptions = new ArrayList<>();
        Matcher word = Pattern.compile("Index|Argument|State").matcher(column);
        while (word.find()) {
            exceptions.add(word.group().equals("Index") ? "IndexOutOfBoundsException" : "Illegal" + word.group() + "Exception");
        }
        return exceptions;
    }

    private static void eachConstantIsTold(String readme, String face) {
        Matcher constant = Pattern.compile("int ([A-Z_]+) = (-?\\d+);").matcher(face);
        while (constant.find()) {
            String told = "`" + constant.group(1) + "` is " + constant.group(2);
            String row = "| `" + constant.group(1) + "` | " + constant.group(2) + " |";
            Kit.due("README.md tells " + constant.group(1), readme.contains(told) || readme.contains(row), true);
        }
    }

    private static void grammarIsTheDocuments(String readme, String document) {
        Kit.due("the grammar in README.md", grammar(readme), grammar(document));
    }

    private static String grammar(String page) {
        int from = page.indexOf("text = [");
        return from < 0 ? "none" : page.substring(from, page.indexOf("```", from)).replaceAll("\\s+", " ").trim();
    }

    private static void eachTestIsTold(String readme) {
        String[] files = new File("src/test/java").list();
        Kit.due("the tests are there", files != null, true);
        for (String file : files == null ? new String[0] : files) {
            Kit.due("README.md tells of " + file, readme.contains("`" + file.replace(".java", "") + "`"), true);
        }
    }
}
