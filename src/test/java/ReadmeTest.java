import java.io.ByteArrayOutputStream;
import java.io.IOException;
import java.io.PrintStream;
import java.nio.charset.StandardCharsets;
import java.nio.file.Files;
import java.nio.file.Path;
import java.util.ArrayList;
import java.util.List;
import java.util.regex.Matcher;
import java.util.regex.Pattern;

/** What README.md says: its example is the one that is compiled, prints what it says, and no file is missing. */
public final class ReadmeTest {
    private static final Path SOURCES = Path.of("src/test/java");

    public static void main(String[] args) throws IOException {
        String readme = Files.readString(Path.of("README.md"));
        Check.due("the example", block(readme, "java"), Files.readString(SOURCES.resolve("Example.java")));
        Check.due("what the example prints", block(readme, "text"), printed());
        everyCallIsTold(readme);
        everyTestIsTold(readme);
        everyClassIsTold(readme);
        Check.finish("ReadmeTest");
    }

    private static String block(String readme, String language) {
        Matcher matcher = Pattern.compile("(?s)```" + language + "\n(.*?)```").matcher(readme);
        return matcher.find() ? matcher.group(1) : "no block of " + language;
    }

    private static String printed() {
        PrintStream out = System.out;
        ByteArrayOutputStream bytes = new ByteArrayOutputStream();
        System.setOut(new PrintStream(bytes, true, StandardCharsets.US_ASCII));
        Example.main(new String[0]);
        System.setOut(out);
        return bytes.toString(StandardCharsets.US_ASCII).replace(System.lineSeparator(), "\n");
    }

    private static void everyCallIsTold(String readme) throws IOException {
        String document = Files.readString(Path.of("../shared/DOC.md"));
        String face = document.substring(document.indexOf("```java"), document.indexOf("## Terms"));
        Matcher call = Pattern.compile("public (?:boolean|int) (\\w+\\()").matcher(face);
        int calls = 0;
        while (call.find()) {
            calls++;
            Check.due("the call " + call.group(1) + ") is told", readme.contains("`" + call.group(1)), true);
        }
        Check.due("calls", calls, 17);
    }

    private static void everyTestIsTold(String readme) throws IOException {
        List<String> names = new ArrayList<>();
        try (var files = Files.list(SOURCES)) {
            files.forEach(file -> names.add(file.getFileName().toString().replace(".java", "")));
        }
        for (String name : names) {
            boolean told = readme.contains("`" + name + "`") || name.endsWith("Boundaries");
            Check.due("the file " + name + " is told", told, true);
        }
        Matcher told = Pattern.compile("`(\\w+Test)`").matcher(readme);
        while (told.find()) {
            Check.due("there is a test " + told.group(1), names.contains(told.group(1)), true);
        }
    }

    private static void everyClassIsTold(String readme) {
        for (Class<?> inside : PaperParcels.class.getDeclaredClasses()) {
            String name = inside.getSimpleName();
            Check.due("the class " + name + " is told", readme.contains("`" + name + "`"), true);
        }
    }
}
