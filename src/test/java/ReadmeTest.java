import java.io.File;
import java.io.IOException;
import java.lang.reflect.Method;
import java.lang.reflect.Modifier;
import java.nio.file.Files;
import java.nio.file.Path;
import java.nio.file.StandardCopyOption;
import java.util.ArrayList;
import java.util.List;
import java.util.TreeSet;
import java.util.regex.Matcher;
import java.util.regex.Pattern;

/**
 * What README.md shows is so: its program compiles by its own lines and prints what stands there, each
 * answer behind a call is what the class answers, each call is shown, each test is named.
 */
public final class ReadmeTest {
    private static final Path PLACE = Path.of("build", "ReadmeTest", "shown");
    private static final String CLASS = "src/main/java/PractisedWrong.java";
    private static final Pattern BLOCK = Pattern.compile("^```(\\w+)\n(.*?)^```$", Pattern.MULTILINE | Pattern.DOTALL);
    private static final Pattern SHOWN = Pattern.compile("^([xy]\\.\\w+\\(.*\\));\\s*// (-?\\d+|Long\\.MIN_VALUE)(:.*)?$");
    private static int wrong = 0;

    public static void main(String[] args) throws Exception {
        String page = Files.readString(Path.of("README.md"));
        program(page);
        int answers = answers(page);
        allCalls(page);
        tests(page);
        System.out.println("readme: " + answers + " answers shown, " + wrong + " faults");
        if (wrong != 0) {
            System.exit(1);
        }
    }

    private static void fail(String what) {
        wrong++;
        System.out.println("readme: " + what);
    }

    private static List<String> blocks(String page, String sort) {
        List<String> out = new ArrayList<>();
        Matcher m = BLOCK.matcher(page);
        while (m.find()) {
            if (m.group(1).equals(sort)) {
                out.add(m.group(2));
            }
        }
        return out;
    }

    private static List<String> calls(String page) {
        List<String> out = new ArrayList<>(blocks(page, "java"));
        out.removeIf(block -> block.contains(" class "));
        return out;
    }

    /** The whole program, compiled and run by the lines that the page gives, in a place that has what the project has. */
    private static void program(String page) throws Exception {
        List<String> programs = new ArrayList<>(blocks(page, "java"));
        programs.removeIf(block -> !block.contains(" class "));
        List<String> lines = blocks(page, "sh");
        int behind = page.indexOf("```sh");
        if (programs.size() != 1 || lines.size() != 1 || behind < 0) {
            fail(programs.size() + " programs, " + lines.size() + " ways to run one");
            return;
        }
        List<String> printed = blocks(page.substring(behind), "text");
        Path at = PLACE.resolve("project");
        Files.createDirectories(at.resolve(CLASS).getParent());
        Files.copy(Path.of(CLASS), at.resolve(CLASS), StandardCopyOption.REPLACE_EXISTING);
        Files.writeString(at.resolve("Piece.java"), programs.get(0));
        String out = run(at.toFile(), "sh", "-e", "-c", lines.get(0));
        if (printed.isEmpty() || !out.equals(printed.get(0))) {
            fail("the program prints\n" + out);
        }
    }

    private static String run(File at, String... command) throws IOException, InterruptedException {
        // what javac and java say beside goes past: some machines have them greet there
        Process process = new ProcessBuilder(command).directory(at).redirectError(ProcessBuilder.Redirect.INHERIT).start();
        process.getOutputStream().close();
        String out = new String(process.getInputStream().readAllBytes());
        int code = process.waitFor();
        return code == 0 ? out : out + "exit code " + code + "\n";
    }

    /** Each line with a call shows its answer (but for those in a loop): how many there are. */
    private static int answers(String page) throws Exception {
        StringBuilder b = new StringBuilder("public final class Shown {\n"
            + "static int wrong = 0;\n"
            + "static void due(String call, long got, long want) { if (got != want) { wrong++; System.out.println(call + \" answered \" + got + \", shown is \" + want); } }\n"
            + "public static void main(String[] args) {\n");
        int shown = 0;
        for (String block : calls(page)) {
            for (String line : block.split("\n")) {
                Matcher m = SHOWN.matcher(line);
                if (m.matches()) {
                    shown++;
                    String want = m.group(2).startsWith("L") ? m.group(2) : m.group(2) + "L";
                    b.append("due(\"").append(m.group(1).replace("\"", "\\\"")).append("\", ").append(m.group(1)).append(", ").append(want).append(");\n");
                } else {
                    if (line.startsWith("x.") || line.startsWith("y.")) {
                        fail("no answer is shown: " + line);
                    }
                    b.append(line).append('\n');
                }
            }
        }
        b.append("System.out.println(wrong == 0 ? \"as shown\" : wrong + \" are not as shown\");\n}\n}\n");
        Files.createDirectories(PLACE);
        Files.writeString(PLACE.resolve("Shown.java"), b.toString());
        String made = PLACE.toString();
        String out = run(new File("."), "javac", "-d", made, CLASS, PLACE.resolve("Shown.java").toString());
        out += run(new File("."), "java", "-cp", made, "Shown");
        if (!out.equals("as shown\n")) {
            fail(out);
        }
        if (shown < 100) {
            fail("only " + shown + " answers are shown");
        }
        return shown;
    }

    private static void allCalls(String page) {
        String all = String.join("\n", calls(page));
        TreeSet<String> missing = new TreeSet<>();
        for (Method method : PractisedWrong.class.getDeclaredMethods()) {
            if (Modifier.isPublic(method.getModifiers()) && !Pattern.compile("[xy]\\." + method.getName() + "\\(").matcher(all).find()) {
                missing.add(method.getName());
            }
        }
        if (!missing.isEmpty()) {
            fail("never shown: " + missing);
        }
        String[] refusals = {"`BAD` (-1)", "`NOT` (-2)", "`FULL` (-3)", "`STATE` (-5)", "| -11 |", "| -12 |", "| -13 |", "| -14 |", "`VOID` (-2000000000)", "`Long.MIN_VALUE`"};
        for (String refusal : refusals) {
            if (!page.contains(refusal)) {
                fail("what it means is not told: " + refusal);
            }
        }
    }

    private static void tests(String page) {
        File[] files = new File("src/test/java").listFiles();
        if (files == null || files.length == 0) {
            fail("no tests in src/test/java");
            return;
        }
        for (File file : files) {
            String name = file.getName().replace(".java", "");
            if (!page.contains("| `" + name + "` |")) {
                fail("the test is not named: " + name);
            }
        }
        for (String place : new String[] {".ci/run", "src/test/java", "src/test/support", "../shared/tests/PractisedWrongRuns.java"}) {
            if (!page.contains(place) || !new File(place).exists()) {
                fail("not told, or not there: " + place);
            }
        }
    }
}
