import java.io.ByteArrayOutputStream;
import java.io.IOException;
import java.io.PrintStream;
import java.lang.reflect.Method;
import java.lang.reflect.Modifier;
import java.net.URL;
import java.net.URLClassLoader;
import java.nio.file.Files;
import java.nio.file.Path;
import java.util.ArrayList;
import java.util.List;
import java.util.TreeSet;
import java.util.regex.Matcher;
import java.util.regex.Pattern;
import java.util.stream.Collectors;
import java.util.stream.Stream;
import javax.tools.ToolProvider;

/** What README.md tells: the example's answers, the acts, the calls, the refusals, the tests. */
public final class ReadmeTest {
    private static final Due due = new Due("ReadmeTest");

    public static void main(String[] args) throws Exception {
        String readme = Files.readString(Path.of("README.md"));
        example(readme);
        acts(readme);
        calls(readme);
        refusals(readme);
        tests(readme);
        due.end();
    }

    /** The example compiles, and each line that prints has its answer beside it. */
    private static void example(String readme) throws Exception {
        Matcher block = Pattern.compile("```java\n(.*?)```", Pattern.DOTALL).matcher(readme);
        due.that("there is an example", block.find());
        String source = block.group(1);
        List<String> told = new ArrayList<>();
        for (String line : source.split("\n")) {
            if (line.contains("System.out.println(")) {
                Matcher answer = Pattern.compile("// (-?\\d+)").matcher(line);
                due.that("an answer stands beside " + line.trim(), answer.find());
                told.add(answer.group(1));
            }
        }
        due.that("the example prints", !told.isEmpty());
        due.is("answers of the example " + told + " (1: they are so)", printed(source).equals(told) ? 1 : 0, 1);
        due.that("there is one example", !block.find());
    }

    private static List<String> printed(String source) throws Exception {
        Path out = Files.createTempDirectory("readme");
        PrintStream console = System.out;
        ByteArrayOutputStream text = new ByteArrayOutputStream();
        try {
            Path file = out.resolve("Example.java");
            Files.writeString(file, source);
            int code = ToolProvider.getSystemJavaCompiler().run(null, null, null, "--release", "17",
                    "-cp", System.getProperty("java.class.path"), "-d", out.toString(), file.toString());
            due.is("javac of the example", code, 0);
            try (URLClassLoader loader = new URLClassLoader(new URL[] {out.toUri().toURL()})) {
                Method main = loader.loadClass("Example").getMethod("main", String[].class);
                System.setOut(new PrintStream(text, true));
                main.invoke(null, (Object) new String[0]);
            }
        } finally {
            System.setOut(console);
            remove(out);
        }
        List<String> lines = text.toString().lines().collect(Collectors.toList());
        return lines;
    }

    private static void remove(Path directory) throws IOException {
        try (Stream<Path> files = Files.list(directory)) {
            for (Path file : files.collect(Collectors.toList())) {
                Files.delete(file);
            }
        }
        Files.delete(directory);
    }

    /** The rows of the table whose first column is headed so, each cut into its columns. */
    private static List<String[]> table(String readme, String heading) {
        List<String[]> rows = new ArrayList<>();
        boolean inside = false;
        for (String line : readme.split("\n")) {
            if (line.startsWith("| " + heading + " |")) {
                inside = true;
            } else if (inside && !line.startsWith("|")) {
                break;
            } else if (inside && !line.startsWith("| ---")) {
                rows.add(line.substring(2, line.length() - 2).split(" \\| "));
            }
        }
        due.that("there is a table of " + heading, !rows.isEmpty());
        return rows;
    }

    /** Each act has the reasons against it that its row tells, and no others. */
    private static void acts(String readme) {
        TreeSet<String> signs = new TreeSet<>();
        for (String[] row : table(readme, "signs")) {
            Matcher text = Pattern.compile("`([^`]+)`").matcher(row[0]);
            TreeSet<Integer> told = new TreeSet<>();
            Matcher reason = Pattern.compile("(\\d): ").matcher(row[2]);
            while (reason.find()) {
                told.add(Integer.parseInt(reason.group(1)));
            }
            while (text.find()) {
                String act = text.group(1);
                signs.add(act);
                due.that("reasons against " + act + " are " + told + ", found " + reasons(act),
                        reasons(act).equals(told));
            }
        }
        due.that("acts are " + signs, signs.equals(new TreeSet<>(
                List.of("A<", "A>", "A+", "A/", "0", "9", "*", "."))));
    }

    private static TreeSet<Integer> reasons(String act) {
        TreeSet<Integer> found = new TreeSet<>();
        for (int state = 0; state < 32; state++) {
            MothAudit x = new MothAudit();
            if ((state & 1) != 0) {
                Due.live(x, ".".repeat(60));
                Due.live(x, ".".repeat(39));
            }
            x.robe(0, (state & 2) != 0 ? 1 : 0, (state & 4) != 0 ? 9 : 0);
            x.saying(0, 0, 1, state & 8);
            x.saying(9, 0, 1, state & 8);
            Due.live(x, (state & 16) != 0 ? "A<" : "");
            Due.write(x, act);
            if (x.judge(1) != MothAudit.NONE) {
                found.add(x.judge(1));
            }
        }
        return found;
    }

    private static void calls(String readme) {
        TreeSet<String> told = new TreeSet<>();
        for (String[] row : table(readme, "call")) {
            Matcher call = Pattern.compile("`(\\w+)\\((.*)\\)`").matcher(row[0]);
            due.that("a call: " + row[0], call.matches());
            int parameters = call.group(2).isEmpty() ? 0 : call.group(2).split(", ").length;
            told.add(call.group(1) + " of " + parameters);
        }
        TreeSet<String> face = new TreeSet<>();
        for (Method method : MothAudit.class.getDeclaredMethods()) {
            if (Modifier.isPublic(method.getModifiers())) {
                face.add(method.getName() + " of " + method.getParameterCount());
            }
        }
        due.that("calls are " + told + ", the face is " + face, told.equals(face));
    }

    private static void refusals(String readme) throws ReflectiveOperationException {
        List<String> order = new ArrayList<>();
        for (String[] row : table(readme, "answer")) {
            String name = row[0].replace("`", "");
            order.add(name);
            due.is(name, MothAudit.class.getField(name).getInt(null), Integer.parseInt(row[1]));
        }
        due.that("refusals, the first that fits: " + order,
                order.equals(List.of("UNKNOWN", "OUTSIDE", "NO", "STATE", "FULL")));
    }

    private static void tests(String readme) throws IOException {
        TreeSet<String> told = new TreeSet<>();
        for (String[] row : table(readme, "test")) {
            told.add(row[0]);
        }
        TreeSet<String> there = new TreeSet<>();
        try (Stream<Path> files = Files.list(Path.of("src/test/java"))) {
            for (Path file : files.collect(Collectors.toList())) {
                String name = file.getFileName().toString();
                if (name.endsWith("Test.java")) {
                    there.add(name.substring(0, name.length() - ".java".length()));
                }
            }
        }
        due.that("tests are " + told + ", there are " + there, told.equals(there));
    }
}
