import java.nio.file.Files;
import java.nio.file.Path;
import java.util.regex.Matcher;
import java.util.regex.Pattern;

/** What of LANGUAGE.md can be seen in the source as text: words that may not stand there, and how long methods are. */
public final class LanguageRulesTest {
    private static final Due DUE = new Due("LanguageRulesTest");
    private static final String[] NOT_THERE = {
        "\\bthrow\\b", "\\btry\\b", "\\bcatch\\b", "\\bthrows\\b", "\\bsynchronized\\b", "\\bassert\\b", "->", "::",
        "\\bpackage\\b", "\\bprotected\\b", "\\w+Exact\\b", "\\bObject\\b", "\\bThread\\b", "\\brandom\\b",
        "\\bsuper\\b", "\\bString\\.", "\\bInteger\\.valueOf\\b", "@\\w+", "static\\s*\\{", "\\bvar\\b", "\\byield\\b",
        "new int\\[[^\\]]*\\]\\[", "\\bMath\\.(?!max\\b|min\\b|abs\\b)\\w+", "\\bSystem\\.(?!arraycopy\\b)\\w+"};

    public static void main(String[] args) throws Exception {
        String path = args.length > 0 ? args[0] : "src/main/java/BellHours.java";
        String source = Files.readString(Path.of(path));
        String code = withoutWords(source);
        for (String word : NOT_THERE) {
            Matcher found = Pattern.compile(word).matcher(code);
            DUE.no("the source has " + word, found.find());
        }
        Matcher imports = Pattern.compile("import ([\\w.]+);").matcher(code);
        while (imports.find()) {
            DUE.yes("import " + imports.group(1), imports.group(1).equals("java.util.Arrays"));
        }
        methodsAreShort(code.split("\n"));
        DUE.yes("plain signs alone", source.chars().allMatch(sign -> sign < 128));
        DUE.end();
    }

    private static String withoutWords(String source) {
        return source.replaceAll("(?s)/\\*.*?\\*/", "").replaceAll("//[^\n]*", "")
            .replaceAll("\"[^\"\n]*\"", "\"\"").replaceAll("'[^']'", "' '");
    }

    private static void methodsAreShort(String[] lines) {
        Pattern head = Pattern.compile("^( +)[\\w\\[\\] ]*\\w+\\(.*\\) \\{$");
        Pattern word = Pattern.compile("^ *(if|for|while|switch|else|\\}).*");
        for (int i = 0; i < lines.length; i++) {
            Matcher at = head.matcher(lines[i]);
            if (!at.matches() || word.matcher(lines[i]).matches()) {
                continue;
            }
            int end = i;
            while (end < lines.length && !lines[end].equals(at.group(1) + "}")) {
                end++;
            }
            DUE.yes("short: " + lines[i].trim(), end - i < 60);
        }
    }
}
