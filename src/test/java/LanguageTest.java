import java.nio.file.Files;
import java.nio.file.Path;
import java.util.regex.Matcher;
import java.util.regex.Pattern;

/** What of the rules of LANGUAGE.md can be seen from the text of the class. */
public final class LanguageTest {
    public static void main(String[] args) throws Exception {
        String source = Files.readString(Path.of("src/main/java/WhistleBack.java"));
        String code = source.replaceAll("(?s)/\\*.*?\\*/", " ").replaceAll("//[^\n]*", " ");
        noneOf(code, "package|import", "a package or an import");
        noneOf(code, "throw|throws|try|catch|finally|synchronized|assert", "an exception or an assertion (6)");
        noneOf(code, "var|volatile|transient|native|protected|while", "a word that the class does without");
        noneOf(code, "String|StringBuilder|Object|List|ArrayList|System|Thread|Random", "the library (4)");
        Due.due("a lambda or a method reference (2)", found(code, "->|::"), 0);
        Due.due("a static block (5)", found(code, "static\\s*\\{"), 0);
        Due.due("texts (10)", found(code, "\""), 0);
        Due.due("signs beyond 127", found(code, "[^\\x00-\\x7f]"), 0);
        Due.due("classes, twelve at most (11)", found(code, "\\bclass\\b") > 12 ? 1 : 0, 0);
        Due.due("classes inside that are not static (2)", found(code, "\\bclass\\b"), 1 + found(code, "private static final class"));
        Due.due("static fields that are not final (5)", found(code, "static (?!final)[\\w\\[\\]]+ \\w+( =|;|,)"), 0);
        Due.due("objects made outside a constructor", found(code, "new "), found(code, "\n +\\w+ = new [^\n]*;"));
        Matcher division = Pattern.compile("[/%]=? *(\\w+)").matcher(code);
        while (division.find()) {
            String divisor = division.group(1);
            if (!divisor.matches("[1-9][0-9]*")) known(divisor);
        }
        Due.end();
    }

    /** Divisors that are no constants; each of them is tested ahead of its division. */
    private static void known(String divisor) {
        Due.due("an untested divisor: " + divisor, divisor.matches("words|bringing|divisor|less") ? 0 : 1, 0);
    }

    private static void noneOf(String code, String words, String what) {
        Due.due(what, found(code, "\\b(" + words + ")\\b"), 0);
    }

    private static int found(String code, String pattern) {
        Matcher matcher = Pattern.compile(pattern).matcher(code);
        int many = 0;
        while (matcher.find()) many++;
        return many;
    }
}
