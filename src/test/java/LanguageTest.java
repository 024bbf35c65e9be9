import java.io.IOException;
import java.lang.reflect.Field;
import java.lang.reflect.Modifier;
import java.nio.file.Files;
import java.nio.file.Path;
import java.util.regex.Matcher;
import java.util.regex.Pattern;

/** Rules of LANGUAGE.md that can be seen in the text of the class. */
public final class LanguageTest {
    private static final Checks CHECKS = new Checks();
    private static final Path SOURCE = Path.of("src/main/java/RuledBoard.java");
    private static final String[] LEFT_OUT = {"->", "::", "\\bsynchronized\\b", "\\bassert\\b", "\\bfinally\\b",
        "\\bpackage\\b", "\\btry\\b", "\\bcatch\\b", "\\bequals\\b", "\\bhashCode\\b", "\\btoString\\b", "Exact\\(",
        "\\bSystem\\b", "\\bdouble\\b", "\\bfloat\\b", "static \\{", "\\bprotected\\b", "\\bwhile\\b", "\\bdo\\b",
        "\\bvar\\b", "\\binstanceof\\b", "\\bString\\b", "@"};

    public static void main(String[] args) throws IOException {
        String code = withoutComments(Files.readString(SOURCE));
        for (String word : LEFT_OUT) {
            CHECKS.due("the class uses " + word, Pattern.compile(word).matcher(code).find(), false);
        }
        CHECKS.sentence("4. The library: only what stands here");
        each(code, "(?m)^import .*;$", "import java\\.util\\.Arrays;");
        each(code, "\\b[A-Z][a-z]\\w*\\.\\w+\\(",
                "(Arrays\\.fill|Long\\.bitCount|Math\\.(abs|min)|Beginning\\.isAllowed)\\(");
        CHECKS.sentence("5. Static fields are final");
        each(code, "(?m)^ +.*\\bstatic (?!.*class )(?!.*\\().*$", " +private static final (int|int\\[\\]) [A-Z_]+ =.*");
        CHECKS.sentence("6. throw new E(\"a written text\")");
        each(code, "\\bthrow\\b[^;]*;", "throw new Illegal(State|Argument)Exception\\(\"[^\"]*\"\\);");
        CHECKS.sentence("9. Every loop has an end that can be seen from its own lines");
        each(code, "\\bfor \\(.*", "for \\(int (\\w+) = [^;]*; \\1 (<|<=|>) [^;]*; \\1(\\+\\+|--)\\) \\{");
        CHECKS.sentence("11. A method takes at most seven parameters, methods stay short");
        sizes(code);
        CHECKS.sentence("12. What a run makes is counted");
        each(code, "(?m)^.*\\bnew\\b.*$",
                " +((private )?final [\\w\\[\\]]+ \\w+ =|throw) .*");
        CHECKS.finish();
    }

    private static String withoutComments(String text) {
        return text.replaceAll("(?s)/\\*.*?\\*/", "").replaceAll("//[^\n]*", "");
    }

    /** All that looks like the first pattern has the form of the second one. */
    private static void each(String code, String pattern, String form) {
        Matcher matcher = Pattern.compile(pattern).matcher(code);
        while (matcher.find()) {
            CHECKS.due(matcher.group().trim() + " is in the form", matcher.group().matches(form), true);
        }
    }

    private static void sizes(String code) {
        CHECKS.due("methods of more than sixty lines", longMethods(code.split("\n")), 0);
        CHECKS.due("lists of more than seven parameters",
                Pattern.compile("\\((\\w[\\w\\[\\]]* \\w+,\\s*){7}").matcher(code).find(), false);
        CHECKS.due("classes, at most twelve", count(code, "\\bclass \\w+") <= 12, true);
        fields(RuledBoard.class);
        for (Class<?> inside : RuledBoard.class.getDeclaredClasses()) {
            fields(inside);
        }
    }

    private static void fields(Class<?> of) {
        int count = 0;
        for (Field field : of.getDeclaredFields()) {
            count += Modifier.isStatic(field.getModifiers()) ? 0 : 1;
        }
        CHECKS.due("fields of " + of.getSimpleName() + ", at most twenty: " + count, count <= 20, true);
    }

    private static int count(String code, String pattern) {
        return (int) Pattern.compile(pattern).matcher(code).results().count();
    }

    /** A method begins with a line that opens a block behind its parameters and ends at the same depth. */
    private static int longMethods(String[] lines) {
        int found = 0;
        for (int first = 0; first < lines.length; first++) {
            Matcher head = Pattern.compile("^( {4}| {8})\\S[^=]*\\)( throws .*)? \\{$").matcher(lines[first]);
            if (head.find()) {
                int end = first;
                while (end < lines.length && !lines[end].equals(head.group(1) + "}")) {
                    end++;
                }
                found += end - first > 60 ? 1 : 0;
            }
        }
        return found;
    }
}
