import java.io.IOException;
import java.nio.file.Files;
import java.nio.file.Path;
import java.util.List;
import java.util.regex.Matcher;
import java.util.regex.Pattern;

/** Words and imports that LANGUAGE.md keeps out of the class; the rest is in LanguageTreeTest. */
public final class LanguageTest {
    private static final Path SOURCE = Path.of("src/main/java/StagedTables.java");

    private LanguageTest() {
    }

    public static void main(String[] args) throws IOException {
        String text = withoutCommentsAndTexts(Files.readString(SOURCE));
        forbiddenWords(text);
        imports(text);
        Due.end();
    }

    private static String withoutCommentsAndTexts(String text) {
        return text.replaceAll("(?s)/\\*.*?\\*/", " ").replaceAll("//[^\n]*", " ").replaceAll("\"[^\"\n]*\"", "\"\"");
    }

    private static void forbiddenWords(String text) {
        List<String> words = List.of("throw", "throws", "try", "catch", "synchronized", "assert", "package", "protected",
            "Exact\\(", "->", "::", "Object", "Exception", "Error", "Thread", "Random", "nanoTime", "currentTimeMillis",
            "hashCode", "toString", "native", "volatile", "finalize", "Map", "Set", "Stream");
        for (String word : words) {
            String whole = word.matches("[A-Za-z]+") ? "\\b" + word + "\\b" : word;
            Due.isTrue("rules 4, 6, 13: without " + word, !Pattern.compile(whole).matcher(text).find());
        }
    }

    private static void imports(String text) {
        Matcher m = Pattern.compile("(?m)^\\s*import\\s+([^;]+);").matcher(text);
        while (m.find()) {
            Due.isTrue("rule 4: import " + m.group(1), List.of("java.util.Arrays", "java.util.ArrayList", "java.util.List")
                .contains(m.group(1)));
        }
    }
}
