import java.io.IOException;
import java.nio.file.Files;
import java.nio.file.Path;
import java.util.List;
import java.util.regex.Matcher;
import java.util.regex.Pattern;

/** Rules of LANGUAGE.md that can be seen in the text of the class. */
public final class LanguageTest {
    private static final Path SOURCE = Path.of("src/main/java/StagedTables.java");
    private static final int LONGEST_METHOD = 60;

    private LanguageTest() {
    }

    public static void main(String[] args) throws IOException {
        String text = withoutCommentsAndTexts(Files.readString(SOURCE));
        forbiddenWords(text);
        imports(text);
        staticFields(text);
        shortMethods(text);
        Due.end();
    }

    private static String withoutCommentsAndTexts(String text) {
        return text.replaceAll("(?s)/\\*.*?\\*/", " ").replaceAll("//[^\n]*", " ").replaceAll("\"[^\"\n]*\"", "\"\"");
    }

    private static void forbiddenWords(String text) {
        List<String> words = List.of("throw", "throws", "try", "catch", "synchronized", "assert", "package", "protected",
            "Exact\\(", "->", "::", "Object", "Exception", "Error", "Thread", "Random", "nanoTime", "currentTimeMillis",
            "hashCode", "toString", "native", "volatile", "finalize", "Map", "Set", "Stream");
        for (String word : words) {
            String whole = word.matches("[A-Za-z]+") ? "\\b" + word + "\\b" : word;
            Due.isTrue("rules 4, 6, 13: without " + word, !Pattern.compile(whole).matcher(text).find());
        }
    }

    private static void imports(String text) {
        Matcher m = Pattern.compile("(?m)^\\s*import\\s+([^;]+);").matcher(text);
        while (m.find()) {
            Due.isTrue("rule 4: import " + m.group(1), List.of("java.util.Arrays", "java.util.ArrayList", "java.util.List")
                .contains(m.group(1)));
        }
    }

    private static void staticFields(String text) {
        Matcher m = Pattern.compile("(?m)^.*\\bstatic\\b[^({]*[;=].*$").matcher(text);
        while (m.find()) {
            Due.isTrue("rule 5: final: " + m.group().trim(), m.group().contains("final"));
        }
        Due.isTrue("rule 5: no static block", !Pattern.compile("static\\s*\\{").matcher(text).find());
    }

    private static void shortMethods(String text) {
        int lines = 0;
        boolean inside = false;
        for (String line : text.split("\n")) {
            boolean head = line.matches("\\s+[A-Za-z].*\\) \\{") && !line.matches("\\s+(if|for|while|switch|\\}).*");
            if (head) {
                inside = true;
                lines = 0;
                String parameters = line.replaceAll(".*\\((.*)\\) \\{", "$1");
                Due.isTrue("rule 11: at most seven parameters: " + line.trim(), parameters.split(",").length <= 7);
            }
            lines += inside ? 1 : 0;
            Due.isTrue("rule 11: a method of " + lines + " lines", lines <= LONGEST_METHOD);
            if (line.isBlank()) {
                inside = false;
            }
        }
    }
}
