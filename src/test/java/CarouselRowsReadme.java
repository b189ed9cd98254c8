import java.io.ByteArrayOutputStream;
import java.io.File;
import java.io.IOException;
import java.io.PrintStream;
import java.lang.reflect.Method;
import java.lang.reflect.Modifier;
import java.net.URL;
import java.net.URLClassLoader;
import java.nio.charset.StandardCharsets;
import java.nio.file.Files;
import java.nio.file.Path;
import java.util.ArrayList;
import java.util.List;
import java.util.TreeSet;
import java.util.regex.Matcher;
import java.util.regex.Pattern;
import java.util.spi.ToolProvider;

/** What README.md says is so: its example's output, its table of calls, its list of tests. */
public final class CarouselRowsReadme {
    private static final Path README = Path.of("README.md");
    private static final Path TESTS = Path.of("src/test/java");

    private static int wrong = 0;

    private static void due(String what, Object got, Object want) {
        if (!got.equals(want)) {
            wrong++;
            System.out.println("README.md, " + what + ": is\n" + got + "\ndue is\n" + want);
        }
    }

    /** The first block of a kind, "" if there is none. */
    private static String block(String text, String kind) {
        Pattern fenced = Pattern.compile("^```" + kind + "\\n(.*?)^```$", Pattern.MULTILINE | Pattern.DOTALL);
        Matcher found = fenced.matcher(text);
        return found.find() ? found.group(1) : "";
    }

    private static String outputOfExample(String program) throws Exception {
        Path dir = Files.createTempDirectory("example");
        Path source = dir.resolve("Example.java");
        try {
            Files.writeString(source, program);
            int code = ToolProvider.findFirst("javac").orElseThrow().run(System.out, System.out,
                    "--release", "17", "-cp", System.getProperty("java.class.path"),
                    "-d", dir.toString(), source.toString());
            return code == 0 ? outputOfMain(dir) : "it does not compile";
        } finally {
            for (File file : dir.toFile().listFiles()) {
                file.delete();
            }
            Files.delete(dir);
        }
    }

    private static String outputOfMain(Path dir) throws Exception {
        PrintStream usual = System.out;
        ByteArrayOutputStream printed = new ByteArrayOutputStream();
        try (URLClassLoader loader = new URLClassLoader(new URL[] {dir.toUri().toURL()})) {
            Method main = loader.loadClass("Example").getMethod("main", String[].class);
            System.setOut(new PrintStream(printed, true, StandardCharsets.UTF_8));
            main.invoke(null, (Object) new String[0]);
        } finally {
            System.setOut(usual);
        }
        return printed.toString(StandardCharsets.UTF_8).replace("\r\n", "\n");
    }

    /** Each row's call and its exceptions, in the table's order. */
    private static TreeSet<String> rows(String text) {
        TreeSet<String> rows = new TreeSet<>();
        Matcher row = Pattern.compile("^\\| `(\\w+)\\(([^)]*)\\)` \\|.*\\|(.*)\\|$", Pattern.MULTILINE).matcher(text);
        while (row.find()) {
            int arguments = row.group(2).isEmpty() ? 0 : row.group(2).split(",").length;
            String thrown = row.group(3).replace("`", "").replace(",", "").trim();
            rows.add(row.group(1) + "/" + arguments + " " + thrown);
        }
        return rows;
    }

    private static TreeSet<String> face() {
        TreeSet<String> face = new TreeSet<>();
        for (Method method : CarouselRows.class.getDeclaredMethods()) {
            if (Modifier.isPublic(method.getModifiers())) {
                List<String> thrown = new ArrayList<>();
                for (Class<?> type : method.getExceptionTypes()) {
                    thrown.add(type.getSimpleName());
                }
                face.add(method.getName() + "/" + method.getParameterCount() + " " + String.join(" ", thrown));
            }
        }
        return face;
    }

    private static TreeSet<String> testsListed(String text) {
        TreeSet<String> listed = new TreeSet<>();
        Matcher item = Pattern.compile("^- `src/test/java/(\\w+\\.java)`", Pattern.MULTILINE).matcher(text);
        while (item.find()) {
            listed.add(item.group(1));
        }
        return listed;
    }

    private static TreeSet<String> testsThere() throws IOException {
        TreeSet<String> there = new TreeSet<>();
        try (var files = Files.list(TESTS)) {
            files.map(file -> file.getFileName().toString())
                    .filter(name -> name.endsWith(".java"))
                    .forEach(there::add);
        }
        return there;
    }

    public static void main(String[] args) throws Exception {
        String text = Files.readString(README).replace("\r\n", "\n");
        due("what the example prints", block(text, "text"), outputOfExample(block(text, "java")));
        due("the table of calls", rows(text), face());
        due("the list of tests", testsListed(text), testsThere());
        System.out.println(wrong == 0 ? "what README.md says is so" : wrong + " wrong");
        if (wrong > 0) {
            System.exit(1);
        }
    }
}
