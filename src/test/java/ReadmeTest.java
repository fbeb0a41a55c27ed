import java.io.IOException;
import java.nio.file.DirectoryStream;
import java.nio.file.Files;
import java.nio.file.Path;
import java.util.ArrayList;
import java.util.List;
import java.util.regex.Matcher;
import java.util.regex.Pattern;

/** Each answer that README.md tells is true, one call after the other on one book; run in the project's folder. */
public final class ReadmeTest {
    private static final String MADE = "FieldBook book = new FieldBook();";
    private static final Pattern CALL = Pattern.compile("book\\.(\\w+)\\((.*)\\); +// ([^:]+)(:.*)?");

    public static void main(String[] args) throws IOException {
        String readme = Files.readString(Path.of("README.md"));
        List<String> lines = examples(readme);
        Check.due("the example begins with a new book", lines.isEmpty() ? "nothing" : lines.get(0), MADE);
        FieldBook book = new FieldBook();
        int answered = 0;
        int refused = 0;
        for (String line : lines.subList(Math.min(1, lines.size()), lines.size())) {
            Matcher call = CALL.matcher(line);
            if (!call.matches()) {
                Check.due("a line of an example", line, "a call and its answer");
                continue;
            }
            boolean refusal = call.group(3).startsWith("throws ");
            if (refusal) {
                refusedCall(book, call);
                refused++;
            } else {
                Check.due("README.md: " + line, Told.answer(book, told(call)), call.group(3));
                answered++;
            }
        }
        Check.due("the example has answers", answered > 0 ? 1 : 0, 1);
        Check.due("the example has refused calls", refused > 0 ? 1 : 0, 1);
        Check.due("README.md names the command that runs the tests", readme.contains("`.ci/run`") ? 1 : 0, 1);
        namesEachTest(readme);
        Check.end();
    }

    /** The lines of all parts in Java, but the empty ones. */
    private static List<String> examples(String readme) {
        List<String> lines = new ArrayList<>();
        boolean inside = false;
        for (String line : readme.split("\n")) {
            if (line.startsWith("```")) {
                inside = line.equals("```java");
            } else if (inside && !line.isBlank()) {
                lines.add(line.strip());
            }
        }
        return lines;
    }

    private static String told(Matcher call) {
        return (call.group(1) + " " + call.group(2).replace(",", "")).strip();
    }

    private static void refusedCall(FieldBook book, Matcher call) {
        long before = book.digest();
        Check.due("README.md: " + call.group(), Told.answer(book, told(call)) + "Exception", call.group(3));
        Check.due("README.md: digest after " + call.group(), book.digest(), before);
    }

    private static void namesEachTest(String readme) throws IOException {
        try (DirectoryStream<Path> files = Files.newDirectoryStream(Path.of("src", "test", "java"), "*Test.java")) {
            for (Path file : files) {
                String name = file.getFileName().toString().replace(".java", "");
                Check.due("README.md names " + name, readme.contains("| " + name + " |") ? 1 : 0, 1);
            }
        }
    }
}
