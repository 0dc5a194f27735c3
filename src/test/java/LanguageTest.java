import java.io.IOException;
import java.nio.file.Files;
import java.nio.file.Path;
import java.util.regex.Matcher;
import java.util.regex.Pattern;

/** What can be seen of LANGUAGE.md in the program's text alone. */
public final class LanguageTest {
    private static final String[] FORBIDDEN = {
        "\\b(throw|throws|try|catch|finally|synchronized|assert|native|volatile|transient|yield|var)\\b", "->", "::",
        "\\b(System\\.(?!arraycopy\\b)\\w+|Thread|Runtime|Random|Class|Object|Map|Set|Iterator|Collections|Optional)\\b",
        "\\bNaN\\b", "\\b\\w+Exact\\b", "\\.(hashCode|toString|getClass|wait|notify)\\b", "\\bnew\\s+\\w+\\s*\\([^()]*\\)\\s*\\{",
        "^package\\b", "\\bprotected\\b", "\\bstatic\\s*\\{", "@\\w+", "\" *\\+|\\+ *\""};

    public static void main(String[] args) throws IOException {
        String text = Files.readString(Path.of("src/main/java/SecondLife.java"));
        for (char c : text.toCharArray()) {
            if (c > 126 || c < 32 && c != '\n') {
                Due.is("sign " + (int) c, 1, 0);
            }
        }
        String code = text.replaceAll("(?s)/\\*.*?\\*/", " ").replaceAll("//[^\n]*", " ")
                .replaceAll("\"[^\"]*\"", "\"\"");
        for (String f : FORBIDDEN) {
            Matcher m = Pattern.compile(f, Pattern.MULTILINE).matcher(code);
            Due.is("forbidden " + f + (m.find() ? ": " + m.group() : ""), m.reset().find() ? 1 : 0, 0);
        }
        Matcher imports = Pattern.compile("^import (.*);", Pattern.MULTILINE).matcher(code);
        while (imports.find()) {
            Due.is("import " + imports.group(1), imports.group(1).equals("java.util.Arrays") ? 1 : 0, 1);
        }
        Matcher statics = Pattern.compile("\\bstatic\\s+(?!final\\b)(\\w+(\\[\\])*\\s+\\w+\\s*[=;])").matcher(code);
        Due.is("a static field that isn't final", statics.find() ? 1 : 0, 0);
        methods(code);
        Matcher classes = Pattern.compile("\\b(class|record|enum|interface)\\s+\\w+").matcher(code);
        int many = 0;
        while (classes.find()) {
            many++;
        }
        Due.is("classes: " + many, many <= 12 ? 1 : 0, 1);
        Due.end();
    }

    /** Methods are short and take at most seven parameters. */
    private static void methods(String code) {
        Matcher m = Pattern.compile("\\n( +)(public|private)[^;={(]*\\(([^)]*)\\) \\{\\n(.*?)\\n\\1\\}", Pattern.DOTALL).matcher(code);
        int many = 0;
        while (m.find()) {
            many++;
            String head = m.group().trim().split("\n")[0];
            Due.is("length of " + head, m.group(4).split("\n").length <= 60 ? 1 : 0, 1);
            Due.is("parameters of " + head, m.group(3).split(",").length <= 7 ? 1 : 0, 1);
        }
        Due.is("methods were seen", many > 100 ? 1 : 0, 1);
    }
}
