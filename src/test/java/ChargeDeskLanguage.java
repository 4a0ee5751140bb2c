import java.io.IOException;
import java.nio.file.Files;
import java.nio.file.Path;
import java.util.regex.Matcher;
import java.util.regex.Pattern;

/** What can be read off the file's text of ../shared/LANGUAGE.md; each fault is printed with the rule's number. */
public final class ChargeDeskLanguage {
    private static final Path SOURCE = Path.of("src/main/java/ChargeDesk.java");

    private static int wrong = 0;

    private static void fault(int rule, String what) {
        wrong++;
        System.out.println("rule " + rule + ": " + what);
    }

    private static String withoutComments(String source) {
        return Pattern.compile("/\\*.*?\\*/|//[^\n]*", Pattern.DOTALL).matcher(source).replaceAll("");
    }

    private static int times(String pattern, String text) {
        int found = 0;
        Matcher matcher = Pattern.compile(pattern, Pattern.MULTILINE).matcher(text);
        while (matcher.find()) {
            found++;
        }
        return found;
    }

    private static void hasNone(int rule, String pattern, String code) {
        Matcher matcher = Pattern.compile(pattern, Pattern.MULTILINE).matcher(code);
        while (matcher.find()) {
            fault(rule, "'" + matcher.group().strip() + "' stands in the file");
        }
    }

    private static void wordsRuledOut(String code) {
        hasNone(1, "\\b(package|protected)\\b", code);
        hasNone(2, "->|::", code);
        // A class inside that is not static; and one without a name, which has a body behind its parentheses.
        hasNone(2, "^ +(?!.*\\bstatic\\b).*\\bclass \\w+", code);
        hasNone(2, "\\bnew \\w+\\([^;{]*\\) *\\{", code);
        // Stricter than rules 3, 4 and 10: the desk has no use for doubles, texts or lists, so none may slip in.
        hasNone(3, "\\b(double|float|Object|Map|Set|Optional|var)\\b", code);
        hasNone(4, "\\bimport\\b", code);
        hasNone(4, "\\b\\w+Exact\\b", code);
        hasNone(4, "\\b(System|Runtime|Thread|Class|Objects|Collections|Character|Boolean)\\b", code);
        hasNone(5, "^ +(private |public )?static (?!final\\b)(?!.*[({])[^;]*;", code);
        hasNone(5, "^ +static *\\{", code);
        hasNone(6, "\\b(throw|throws|try|catch|finally|synchronized|assert|volatile|hashCode|equals|toString)\\b", code);
        hasNone(10, "\"", code);
    }

    private static void sizes(String code) {
        if (times("\\b(class|interface|enum|record) \\w+", code) > 12) {
            fault(11, "more than twelve classes");
        }
        Matcher head = Pattern.compile("^ +(?:\\w+ )*\\w+(?:\\[\\])* ?\\w*\\(([^()]*)\\) \\{\n", Pattern.MULTILINE).matcher(code);
        int methods = 0;
        while (head.find()) {
            if (head.group().matches("(?s) +(if|for|while|switch|else)\\b.*")) {
                continue;
            }
            methods++;
            String name = head.group().strip();
            if (head.group(1).split(",").length > 7) {
                fault(11, "more than seven parameters: " + name);
            }
            int indent = head.group().length() - head.group().stripLeading().length();
            int end = code.indexOf("\n" + " ".repeat(indent) + "}", head.end() - 1);
            if (end < 0 || times("\n", code.substring(head.end() - 1, end)) > 60) {
                fault(11, "more than sixty lines: " + name);
            }
        }
        // The document's face alone has a constructor and 24 methods: fewer seen means that this test is blind.
        if (methods < 25) {
            fault(11, "only " + methods + " methods were found to be measured");
        }
    }

    public static void main(String[] args) throws IOException {
        String code = withoutComments(Files.readString(SOURCE));
        wordsRuledOut(code);
        sizes(code);
        System.out.println(wrong == 0 ? "the language is as due" : wrong + " faults in the language");
        if (wrong != 0) {
            System.exit(1);
        }
    }
}
