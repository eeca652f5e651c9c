import java.nio.file.Files;
import java.nio.file.Path;
import java.util.List;
import java.util.regex.Matcher;
import java.util.regex.Pattern;

/** Rules of ../shared/LANGUAGE.md that the text of the class shows. */
final class LanguageTests {
    private static final String[] NOT_THERE = {
        "^\\s*import\\b", "^\\s*package\\b", "->", "::", "\\bcatch\\b", "\\btry\\b", "\\bfinally\\b",
        "\\bsynchronized\\b",
        "\\bassert\\b", "\\bstatic\\s*\\{", "\\bvar\\b", "\\bSystem\\.(?!arraycopy)", "\\bDouble\\b", "\\bFloat\\b",
        "\\bObject\\b", "\\bvolatile\\b", "\\bThread\\b", "\\bRandom\\b", "Exact\\b", "\\btoString\\b",
        "\\bhashCode\\b",
        "\\bequals\\b", "\"\\s*\\+", "\\+\\s*\"", "\\bstatic (?!final|boolean|int|long|void)[a-z]+ ",
    };

    private LanguageTests() {
    }

    static void run(Tally tally, String path) throws Exception {
        List<String> lines = Files.readAllLines(Path.of(path));
        String code = withoutComments(String.join("\n", lines));
        for (String sign : NOT_THERE) {
            Matcher matcher = Pattern.compile(sign, Pattern.MULTILINE).matcher(code);
            tally.is("language: no " + sign, matcher.find() ? matcher.group() : "", "");
        }
        tally.is("language: signs", code.chars().allMatch(c -> c == '\n' || c >= 32 && c < 127), true);
        Matcher classes = Pattern.compile("\\b(class|record|enum|interface) [A-Z]").matcher(code);
        tally.is("rule 11: at most 12 classes", classes.results().count() <= 12, true);
        methodLengths(tally, code.split("\n"));
        Matcher thrown = Pattern.compile("throw (?!new (IllegalState|IllegalArgument|IndexOutOfBounds)Exception\\(\")")
                .matcher(code);
        tally.is("rule 6: throws", thrown.find() ? code.substring(thrown.start(), thrown.start() + 40) : "", "");
    }

    private static String withoutComments(String text) {
        return text.replaceAll("(?s)/\\*.*?\\*/", "").replaceAll("//[^\n]*", "");
    }

    /** A method starts with a line that ends in "{" and holds "(", and ends with the brace of the same indent. */
    private static void methodLengths(Tally tally, String[] lines) {
        Pattern anyHead = Pattern.compile("^( {4}| {8})(?=\\S)(?!static final|private static final class).*\\(.*");
        for (int i = 0; i < lines.length; i++) {
            Matcher head = anyHead.matcher(lines[i]);
            if (!head.matches() || lines[i].trim().endsWith(";") || lines[i].contains("=")) {
                continue;
            }
            int end = i;
            while (end < lines.length - 1 && !lines[end].startsWith(head.group(1) + "}")) {
                end++;
            }
            tally.is("rule 11: the length of " + lines[i].trim(), end - i < 60, true);
        }
    }
}
