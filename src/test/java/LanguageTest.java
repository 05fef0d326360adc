import java.io.IOException;
import java.nio.charset.StandardCharsets;
import java.nio.file.Files;
import java.nio.file.Path;
import java.util.List;
import java.util.regex.Matcher;
import java.util.regex.Pattern;

/** Rules of LANGUAGE.md that can be seen in the source (run from the project's folder). */
public final class LanguageTest {
    private static final Checks CHECKS = new Checks("LanguageTest");

    public static void main(String[] args) throws IOException {
        String source = Files.readString(Path.of("src/main/java/AskedCourt.java"), StandardCharsets.ISO_8859_1);
        String code = source.replaceAll("(?s)/\\*.*?\\*/", "").replaceAll("//[^\n]*", "").replaceAll("\"[^\"\n]*\"", "\"\"");
        for (String word : List.of("try", "catch", "finally", "synchronized", "assert", "instanceof", "double", "float",
                "enum", "record", "interface", "protected", "package", "Object", "equals", "hashCode", "toString")) {
            CHECKS.due("the word " + word, Pattern.compile("\\b" + word + "\\b").matcher(code).find(), false);
        }
        for (String sign : List.of("->", "::", "@", "Exact(", "System.", "Thread", "[][]", "?>", "<>(")) {
            CHECKS.due("the sign " + sign, code.contains(sign), false);
        }
        due("imports", code, "import ([^;]*);", "java.util.NoSuchElementException");
        due("what is thrown", code, "throw new ([^;]*);", "(IndexOutOfBoundsException|NoSuchElementException)\\(\\)");
        due("calls of the library", code, "\\b((?:Math|Integer|Long|String|Arrays)\\.\\w+)", "(Math\\.(min|max)|Integer\\.bitCount)");
        due("objects", code, "new ([A-Z]\\w*)\\(", "(Names|Court|Law|Tokens|TextReader|LawReader|State|Rules|History|Notes|Search"
                + "|IndexOutOfBoundsException|NoSuchElementException)");
        methodsAreShort(source);
        CHECKS.end();
    }

    private static void due(String what, String code, String find, String allowed) {
        Matcher found = Pattern.compile(find).matcher(code);
        while (found.find()) {
            CHECKS.due(what + ": " + found.group(1), found.group(1).matches(allowed), true);
        }
    }

    private static void methodsAreShort(String source) {
        String[] lines = source.split("\n");
        int start = 0;
        for (int i = 0; i < lines.length; i++) {
            if (lines[i].matches(" {4,8}[a-z].*\\) (throws .*)?\\{")) {
                start = i;
            }
            if (lines[i].matches(" {4,8}\\}") && start > 0) {
                CHECKS.due("lines of " + lines[start].strip(), i - start <= 60, true);
                start = 0;
            }
        }
    }
}
