import java.io.IOException;
import java.nio.file.Files;
import java.nio.file.Path;
import java.util.List;
import java.util.regex.Matcher;
import java.util.regex.Pattern;

/** Some rules of LANGUAGE.md that can be seen in the text of the class. */
public final class LanguageTest {
    private static final Path SOURCE = Path.of("src/main/java/RuledBoard.java");
    private static final String[] LEFT_OUT = {"->", "::", "\\bsynchronized\\b", "\\bassert\\b", "\\bfinally\\b",
        "\\bpackage\\b", "\\btry\\b", "\\bhashCode\\b", "\\btoString\\b", "Exact\\(", "\\bSystem\\.(?!arraycopy)",
        "\\bdouble\\b", "\\bfloat\\b", "static \\{"};

    public static void main(String[] args) throws IOException {
        Checks checks = new Checks();
        List<String> lines = Files.readAllLines(SOURCE);
        String code = withoutComments(String.join("\n", lines));
        for (String word : LEFT_OUT) {
            checks.due("the class uses " + word, Pattern.compile(word).matcher(code).find(), false);
        }
        Matcher imports = Pattern.compile("(?m)^import (.*);$").matcher(code);
        while (imports.find()) {
            checks.dueText("import", imports.group(1), "java.util.Arrays");
        }
        Matcher statics = Pattern.compile("(?m)^ +(.*)\\bstatic (?!.*class )(?!.*\\().*$").matcher(code);
        while (statics.find()) {
            checks.due("a static field is final: " + statics.group().trim(),
                    statics.group().contains("static final"), true);
        }
        checks.due("methods of more than sixty lines", longMethods(code.split("\n")), 0);
        checks.finish();
    }

    private static String withoutComments(String text) {
        return text.replaceAll("(?s)/\\*.*?\\*/", "").replaceAll("//[^\n]*", "");
    }

    /** A method begins with a line that opens a block behind its parameters and ends at the same depth. */
    private static int longMethods(String[] lines) {
        int found = 0;
        for (int first = 0; first < lines.length; first++) {
            Matcher head = Pattern.compile("^( {4}| {8})\\S[^=]*\\)( throws .*)? \\{$").matcher(lines[first]);
            if (head.find()) {
                int end = first;
                while (end < lines.length && !lines[end].equals(head.group(1) + "}")) {
                    end++;
                }
                found += end - first > 60 ? 1 : 0;
            }
        }
        return found;
    }
}
