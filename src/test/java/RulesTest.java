import java.io.IOException;
import java.nio.file.Files;
import java.nio.file.Path;
import java.util.regex.Matcher;
import java.util.regex.Pattern;

/** Words and forms that LANGUAGE.md keeps out of the source. */
public final class RulesTest {
    private static final String[] KEPT_OUT = {
        "\\bpackage\\b", "\\bimport\\b", "\\bthrows?\\b", "\\btry\\b", "\\bcatch\\b", "\\bsynchronized\\b",
        "\\bassert\\b", "->", "::", "\\bprotected\\b", "Exact\\s*\\(", "\\bSystem\\.(?!arraycopy\\b)", "\\bRandom\\b",
        "\\bThread\\b", "\\bhashCode\\b", "\\btoString\\b", "\\bstatic\\s*\\{", "while\\s*\\(\\s*true", "for\\s*\\(;;",
        "[^\\x09\\x0a\\x20-\\x7e]"
    };

    public static void main(String[] args) throws IOException {
        String source = Files.readString(Path.of(System.getProperty("mapitch.source")));
        String code = source.replaceAll("(?s)/\\*.*?\\*/", "").replaceAll("//[^\\n]*", "");
        for (String form : KEPT_OUT) {
            Matcher found = Pattern.compile(form).matcher(code);
            Check.due("'" + form + "' in the source", found.find() ? 1 : 0, 0);
        }
        Check.due("more than twelve classes", count(code, "\\bclass\\s+[A-Z]") > 12 ? 1 : 0, 0);
        Check.due("methods of over sixty lines", longMethods(source), 0);
        Check.end();
    }

    private static int count(String code, String form) {
        int many = 0;
        for (Matcher found = Pattern.compile(form).matcher(code); found.find();) {
            many++;
        }
        return many;
    }

    private static int longMethods(String source) {
        int many = 0;
        int begun = -1;
        String[] lines = source.split("\n");
        for (int i = 0; i < lines.length; i++) {
            if (lines[i].matches("( {4}| {8})\\S.*\\) \\{")) {
                begun = i;
            } else if (lines[i].matches("( {4}| {8})\\}") && begun >= 0) {
                many += i - begun + 1 > 60 ? 1 : 0;
                begun = -1;
            }
        }
        return many;
    }
}
