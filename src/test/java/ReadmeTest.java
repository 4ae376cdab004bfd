import java.io.ByteArrayOutputStream;
import java.io.IOException;
import java.io.PrintStream;
import java.nio.charset.StandardCharsets;
import java.nio.file.DirectoryStream;
import java.nio.file.Files;
import java.nio.file.Path;
import java.util.ArrayList;
import java.util.List;
import javax.tools.JavaCompiler;
import javax.tools.ToolProvider;

/** What README.md shows: its blocks of Java are one program, whose remarks tell what it prints; and it names each test. */
public final class ReadmeTest {
    private static final String REMARK = "; // ";
    private final List<String> methods = new ArrayList<>();
    private final List<String> statements = new ArrayList<>();
    private final List<String> due = new ArrayList<>();

    public static void main(String[] args) throws IOException, ReflectiveOperationException {
        List<String> page = Files.readAllLines(Path.of("README.md"));
        new ReadmeTest().program(page);
        namesOfTests(String.join("\n", page));
        Check.finish("ReadmeTest");
    }

    private void program(List<String> page) throws IOException, ReflectiveOperationException {
        boolean inside = false;
        List<String> block = new ArrayList<>();
        for (String line : page) {
            if (inside && line.equals("```")) {
                keep(block);
                inside = false;
            } else if (inside) {
                block.add(line);
            } else if (line.equals("```java")) {
                block.clear();
                inside = true;
            }
        }
        Check.same("the last block ends", false, inside);
        Check.same("the page shows answers", true, due.size() > 30);
        Check.same("what the page's program prints", String.join("\n", due), String.join("\n", printed()));
    }

    private void keep(List<String> block) {
        boolean isMethod = block.get(0).startsWith("static ");
        (isMethod ? methods : statements).addAll(block);
        for (String line : block) {
            boolean prints = line.contains("System.out.println(");
            Check.same("each printed answer has its remark: " + line, prints, line.contains(REMARK));
            if (prints) {
                due.add(line.substring(line.indexOf(REMARK) + REMARK.length()));
            }
        }
    }

    private String source() {
        return "public final class Shown {\n" + String.join("\n", methods)
                + "\npublic static void main(String[] args) {\n" + String.join("\n", statements) + "\n}\n}\n";
    }

    private List<String> printed() throws IOException, ReflectiveOperationException {
        Path directory = Files.createTempDirectory("readme");
        try {
            Path file = directory.resolve("Shown.java");
            Files.writeString(file, source());
            JavaCompiler compiler = ToolProvider.getSystemJavaCompiler();
            Check.same("a compiler is there", true, compiler != null);
            String classes = System.getProperty("java.class.path");
            int code = compiler.run(null, null, null, "-d", directory.toString(), "-cp", classes, file.toString());
            Check.same("the page's program compiles", 0, code);
            return code == 0 ? run(Files.readAllBytes(directory.resolve("Shown.class"))) : List.of();
        } finally {
            removeAll(directory);
        }
    }

    private static List<String> run(byte[] shown) throws ReflectiveOperationException {
        PrintStream out = System.out;
        ByteArrayOutputStream bytes = new ByteArrayOutputStream();
        System.setOut(new PrintStream(bytes, true));
        try {
            new Loader().define(shown).getMethod("main", String[].class).invoke(null, (Object) new String[0]);
        } finally {
            System.setOut(out);
        }
        return new String(bytes.toByteArray(), StandardCharsets.US_ASCII).lines().toList();
    }

    private static final class Loader extends ClassLoader {
        Loader() {
            super(ReadmeTest.class.getClassLoader());
        }

        Class<?> define(byte[] shown) {
            return defineClass("Shown", shown, 0, shown.length);
        }
    }

    private static void removeAll(Path directory) throws IOException {
        try (DirectoryStream<Path> files = Files.newDirectoryStream(directory)) {
            for (Path file : files) {
                Files.delete(file);
            }
        }
        Files.delete(directory);
    }

    private static void namesOfTests(String page) throws IOException {
        try (DirectoryStream<Path> files = Files.newDirectoryStream(Path.of("src/test/java"), "*Test.java")) {
            for (Path file : files) {
                String name = file.getFileName().toString().replace(".java", "");
                Check.same("the page names " + name, true, page.contains("| `" + name + "` |"));
            }
        }
        Check.same("the page tells how to run the tests", true, page.contains("\n    .ci/run\n"));
    }
}
