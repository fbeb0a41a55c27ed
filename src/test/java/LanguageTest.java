import java.io.IOException;
import java.nio.file.Files;
import java.nio.file.Path;

/** Some rules of ../shared/LANGUAGE.md that the text of the class shows; run in the project's folder. */
public final class LanguageTest {
    private static final Path SOURCE = Path.of("src", "main", "java", "FieldBook.java");

    private static final String[] RULED_OUT = {
        "\\bpackage\\b", "\\bimport\\b", "->", "::", "\\btry\\b", "\\bcatch\\b", "\\bfinally\\b", "\\bsynchronized\\b",
        "\\bassert\\b", "\\bDouble\\b", "\\bFloat\\b", "\\bSystem\\.(?!arraycopy\\b)", "Exact\\b", "\\bhashCode\\b",
        "\\btoString\\b", "\\bequals\\b", "\\bwhile\\s*\\(\\s*true\\s*\\)", "\\bstatic\\s*\\{", "\\bextends\\s+\\w*Exception",
    };

    public static void main(String[] args) throws IOException {
        String source = Files.readString(SOURCE);
        Check.due("signs beyond 127", source.chars().filter(sign -> sign > 127).count(), 0);
        String code = source.replaceAll("(?s)/\\*.*?\\*/", "").replaceAll("//[^\n]*", "");
        String plain = code.replaceAll("\"[^\"\n]*\"", "\"\"");
        for (String ruledOut : RULED_OUT) {
            Check.due("ruled out: " + ruledOut, plain.split(ruledOut, -1).length - 1, 0);
        }
        int written = plain.split("\\bthrow\\b", -1).length - 1;
        int allowed = plain.split("\\bthrow new (IllegalArgument|IllegalState|IndexOutOfBounds)Exception\\(\"\"\\);", -1).length - 1;
        Check.due("throws of a written text", allowed, written);
        Check.end();
    }
}
