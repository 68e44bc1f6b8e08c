import java.io.IOException;
import java.nio.file.Files;
import java.nio.file.Path;
import java.util.regex.Matcher;
import java.util.regex.Pattern;

/** What the text of the class can show of LANGUAGE.md, and that no call makes an object. */
public final class LanguageTest {
    private static final int MOST_LINES = 60;
    private static int wrong = 0;

    private static void check(boolean right, String what) {
        if (!right) {
            wrong++;
            System.out.println(what);
        }
    }

    public static void main(String[] args) throws IOException {
        String text = Files.readString(Path.of("src/main/java/GrowthGrid.java"));
        check(text.chars().allMatch(c -> c == '\n' || c >= ' ' && c < 127), "there are other signs than ASCII");
        String code = text.replaceAll("(?s)/\\*.*?\\*/", " ").replaceAll("//[^\n]*", " ");
        String[] words = {"throw", "throws", "try", "catch", "finally", "synchronized", "assert", "import", "package",
            "native", "volatile", "transient", "strictfp", "protected", "extends", "implements", "double", "float",
            "Object", "System", "Thread", "Exception", "instanceof", "var", "yield"};
        for (String w : words) {
            check(!Pattern.compile("\\b" + w + "\\b").matcher(code).find(), "there is '" + w + "'");
        }
        check(!code.contains("->") && !code.contains("::"), "there is a lambda or a reference to a method");
        check(!code.contains("\""), "there is a text");
        check(!Pattern.compile("\\bstatic\\s*\\{").matcher(code).find(), "there is a static block");
        check(!Pattern.compile("\\bwhile\\s*\\(\\s*true|for\\s*\\(\\s*;").matcher(code).find(), "a loop has no end");
        checkMethods(code.split("\n"));
        System.out.println(wrong == 0 ? "the language is kept to" : wrong + " rules are not kept");
        if (wrong != 0) {
            System.exit(1);
        }
    }

    /** Methods are told by their lines: one begins with a head and ends with its indent and a brace. */
    private static void checkMethods(String[] lines) {
        Pattern head = Pattern.compile("^( {4}| {8})(?! )(?!.*\\bclass\\b)[\\w\\[\\] ]*?(\\w+)\\([^;]*\\{$");
        int methods = 0;
        for (int k = 0; k < lines.length; k++) {
            Matcher m = head.matcher(lines[k]);
            if (!m.find() || lines[k].matches("\\s*(if|for|while|switch|else|return|\\}).*")) {
                continue;
            }
            methods++;
            boolean constructor = Character.isUpperCase(m.group(2).charAt(0));
            int end = k + 1;
            while (end < lines.length && !lines[end].equals(m.group(1) + "}")) {
                check(constructor || !lines[end].matches(".*\\bnew\\b.*"), m.group(2) + " makes an object");
                end++;
            }
            check(end - k < MOST_LINES, m.group(2) + " is too long");
        }
        check(methods > 100, "only " + methods + " methods were found");
    }
}
