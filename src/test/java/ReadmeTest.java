import java.io.ByteArrayOutputStream;
import java.io.IOException;
import java.io.PrintStream;
import java.lang.reflect.Field;
import java.lang.reflect.Method;
import java.lang.reflect.Modifier;
import java.nio.charset.StandardCharsets;
import java.nio.file.Files;
import java.nio.file.Path;
import java.util.stream.Stream;

/** What README.md tells of the class and of its tests is so. */
public final class ReadmeTest {
    private static final String FENCE = "```";
    private static String readme = "";
    private static int wrong = 0;

    public static void main(String[] args) throws IOException, IllegalAccessException {
        readme = Files.readString(Path.of("README.md"));
        example();
        grammar();
        for (Method m : ParticipatoryBudget.class.getDeclaredMethods()) {
            if (Modifier.isPublic(m.getModifiers())) {
                tells("`" + m.getName() + "`");
            }
        }
        for (Field f : ParticipatoryBudget.class.getDeclaredFields()) {
            if (Modifier.isPublic(f.getModifiers())) {
                tells("`" + f.getName() + "`" + (f.getInt(null) < 0 ? " (" + f.getInt(null) + ")" : ""));
            }
        }
        tests();
        System.out.println(wrong == 0 ? "README.md tells it as it is" : wrong + " faults of README.md");
        if (wrong != 0) {
            System.exit(1);
        }
    }

    private static void tells(String what) {
        if (!readme.contains(what)) {
            wrong++;
            System.out.println("README.md does not tell: " + what);
        }
    }

    private static void example() throws IOException {
        tells(FENCE + "java\n" + Files.readString(Path.of("src/example/java/Example.java")) + FENCE);
        PrintStream console = System.out;
        ByteArrayOutputStream printed = new ByteArrayOutputStream();
        System.setOut(new PrintStream(printed, true, StandardCharsets.UTF_8));
        Example.main(new String[0]);
        System.setOut(console);
        tells(FENCE + "text\n" + printed.toString(StandardCharsets.UTF_8).replace("\r\n", "\n") + FENCE);
    }

    private static void grammar() throws IOException {
        String document = Files.readString(Path.of("../shared/DOC.md"));
        int from = document.indexOf("    text      = {");
        int to = document.indexOf("\nA name is a word of", from);
        if (from < 0 || to < 0) {
            throw new IllegalStateException("the document's grammar is not where it was");
        }
        tells(FENCE + "text\n" + document.substring(from, to).replaceAll("(?m)^ {4}", "") + "\n" + FENCE);
    }

    private static void tests() throws IOException {
        try (Stream<Path> files = Files.list(Path.of("src/test/java"))) {
            files.map(p -> p.getFileName().toString().replace(".java", "")).forEach(name -> tells("`" + name + "`"));
        }
    }
}
