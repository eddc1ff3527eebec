import java.io.IOException;
import java.nio.file.Files;
import java.nio.file.Path;
import java.util.regex.Matcher;
import java.util.regex.Pattern;

/** Looks for what ../shared/LANGUAGE.md rules out, as far as the words of the source show it. */
public final class LanguageTest {
    private static final Check check = new Check();

    private static int count(String text, String pattern) {
        Matcher matcher = Pattern.compile(pattern).matcher(text);
        int n = 0;
        while (matcher.find()) {
            n++;
        }
        return n;
    }

    public static void main(String[] args) throws IOException {
        String source = Files.readString(Path.of("src/main/java/BirthTenth.java"));
        String code = source.replaceAll("(?s)/\\*.*?\\*/", "").replaceAll("//[^\n]*", "").replaceAll("\"[^\"\n]*\"", "\"\"");
        String[] words = {
            "throw", "throws", "try", "catch", "finally", "synchronized", "assert", "import", "package", "protected", "transient",
            "volatile", "native", "hashCode", "toString", "equals", "Object", "Thread", "Random", "Exact", "System\\.(?!arraycopy)",
        };
        for (String word : words) {
            check.due("rules: " + word, count(code, "\\b" + word + (word.endsWith(")") ? "" : "\\b")), 0);
        }
        check.due("2 lambdas and method references", count(code, "->|::"), 0);
        check.due("2 classes inside that are not static", count(code, "(?<!static final )\\bclass \\w+"), 1);
        check.due("10 joined texts", count(code, "\"\" \\+|\\+ \"\""), 0);
        check.due("5 static fields that are not final", count(code, "\\bstatic (?!final )[\\w\\[\\]]+ \\w+( =|;)"), 0);
        check.due("1 public members", count(code, "\\bpublic "), 1 + 2 + 1 + 36);
        check.due("11 at most twelve classes", count(code, "\\bclass \\w+") <= 12 ? 0 : 1, 0);
        check.due("11 at most seven parameters", count(code, "\\((\\w+(\\[\\])? \\w+, ){7}"), 0);
        int from = 0;
        String[] lines = source.split("\n");
        for (int i = 0; i < lines.length; i++) {
            if (lines[i].matches("( {4}| {8})\\S.*\\) \\{")) {
                from = i;
            }
            if (lines[i].matches("( {4}| {8})\\}")) {
                check.due("11 lines of what ends in line " + (i + 1), i - from > 60 && lines[i].startsWith("        ") ? 1 : 0, 0);
            }
        }
        Matcher face = Pattern.compile("\\bpublic \\w+ (\\w+)\\(").matcher(code);
        while (face.find()) {
            String name = face.group(1);
            check.due("1 methods called " + name, count(code, "\\b(int|long|void|boolean|Town|Tape|State|\\]) " + name + "\\("), 1);
        }
        check.end();
    }
}
