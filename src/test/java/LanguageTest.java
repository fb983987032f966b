import java.io.IOException;
import java.nio.file.Files;
import java.nio.file.Path;
import java.util.List;
import java.util.regex.Matcher;
import java.util.regex.Pattern;

/** Those rules of LANGUAGE.md that can be seen line by line in the source; run from the project's folder. */
public final class LanguageTest {
    private static final String[] RULED_OUT = {"->", "::", "\\bfinally\\b", "\\btry\\b", "\\bcatch\\b", "\\bsynchronized\\b", "\\bassert\\b", "\\bvar\\b",
        "Exact\\(", "\\bSystem\\.(?!arraycopy)", "\\bRandom\\b", "\\bThread\\b", "\\bdouble\\b", "\\bfloat\\b", "\\bMath\\.(?!max|min|abs)",
        "\\bprotected\\b", "\\.hashCode\\(", "\\.toString\\(", "\\.getMessage\\(", "\" \\+", "\\+ \"", "\\bstatic \\{", "while \\(true\\)"};
    private static final Pattern METHOD = Pattern.compile("^( {4}| {8})(?! ).*\\((.*)\\)( throws \\w+)? \\{$");

    private LanguageTest() {
    }

    public static void main(String[] args) throws IOException {
        List<String> lines = Files.readAllLines(Path.of("src/main/java/FourAPole.java"));
        int classes = 0;
        for (int i = 0; i < lines.size(); i++) {
            String line = lines.get(i);
            String code = line.strip().startsWith("/") ? "" : line;
            for (String word : RULED_OUT) {
                Check.due("line " + (i + 1) + " holds " + word, Pattern.compile(word).matcher(code).find(), false);
            }
            Check.due("line " + (i + 1) + " has other signs", line.chars().allMatch(c -> c >= 32 && c < 127), true);
            classes += code.contains(" class ") ? 1 : 0;
            Matcher method = METHOD.matcher(code);
            if (method.matches()) {
                Check.due("line " + (i + 1) + ": at most seven parameters", method.group(2).split(",").length <= 7, true);
                int end = lines.subList(i, lines.size()).indexOf(method.group(1) + "}");
                Check.due("line " + (i + 1) + ": at most sixty lines", end >= 0 && end <= 60, true);
            }
        }
        Check.due("at most twelve classes", classes <= 12, true);
        Check.end("LanguageTest");
    }
}
