import java.io.IOException;
import java.nio.file.Files;
import java.nio.file.Path;
import java.util.Arrays;
import java.util.regex.Matcher;
import java.util.regex.Pattern;

/** Looks for what ../shared/LANGUAGE.md rules out, as far as the words of the source show it. */
public final class LanguageTest {
    private static final Check check = new Check();

    private static int count(String text, String pattern) {
        Matcher matcher = Pattern.compile(pattern).matcher(text);
        int n = 0;
        while (matcher.find()) {
            n++;
        }
        return n;
    }

    /** Of each method: how long it is, whether one that calls itself is private, and that it makes no object. */
    private static void methods(String source) {
        String[] lines = source.split("\n");
        Pattern header = Pattern.compile("( +)((?:private |public |static )*)[\\w\\[\\]]+ (\\w+)\\([^;]*\\) \\{");
        int methods = 0;
        for (int from = 0; from < lines.length; from++) {
            Matcher matcher = header.matcher(lines[from]);
            if (!matcher.matches() || lines[from].trim().matches("(else if|public BirthTenth)\\b.*")) {
                continue;
            }
            int to = from + 1;
            while (!lines[to].equals(matcher.group(1) + "}")) {
                to++;
            }
            String name = matcher.group(3);
            String body = String.join("\n", Arrays.copyOfRange(lines, from + 1, to));
            boolean callsItself = count(body, "(?<![\\w.])" + name + "\\(") > 0;
            check.due("11 more than sixty lines of " + name, to - from > 60 ? 1 : 0, 0);
            check.due("8 calls itself and is not private: " + name, callsItself && !matcher.group(2).contains("private") ? 1 : 0, 0);
            check.due("12 objects that are made by " + name, count(body, "\\bnew "), 0);
            methods++;
        }
        check.due("methods that were looked at, at least the face's", methods >= 36 ? 1 : 0, 1);
    }

    public static void main(String[] args) throws IOException {
        String source = Files.readString(Path.of("src/main/java/BirthTenth.java"));
        String code = source.replaceAll("(?s)/\\*.*?\\*/", "").replaceAll("//[^\n]*", "").replaceAll("\"[^\"\n]*\"", "\"\"");
        String[] words = {
            "throw", "throws", "try", "catch", "finally", "synchronized", "assert", "import", "package", "protected", "transient",
            "volatile", "native", "hashCode", "toString", "equals", "Object", "Thread", "Random", "Exact", "System\\.(?!arraycopy)",
        };
        for (String word : words) {
            check.due("rules: " + word, count(code, "\\b" + word + (word.endsWith(")") ? "" : "\\b")), 0);
        }
        check.due("2 lambdas and method references", count(code, "->|::"), 0);
        check.due("2 classes inside that are not static", count(code, "(?<!static final )\\bclass \\w+"), 1);
        check.due("10 joined texts", count(code, "\"\" \\+|\\+ \"\""), 0);
        check.due("5 static fields that are not final", count(code, "\\bstatic (?!final )[\\w\\[\\]]+ \\w+( =|;)"), 0);
        check.due("1 public members", count(code, "\\bpublic "), 1 + 2 + 1 + 36);
        check.due("11 at most twelve classes", count(code, "\\bclass \\w+") <= 12 ? 0 : 1, 0);
        check.due("11 at most seven parameters", count(code, "\\((\\w+(\\[\\])? \\w+, ){7}"), 0);
        methods(source);
        Matcher face = Pattern.compile("\\bpublic \\w+ (\\w+)\\(").matcher(code);
        while (face.find()) {
            String name = face.group(1);
            check.due("1 methods called " + name, count(code, "\\b(int|long|void|boolean|Town|Tape|State|\\]) " + name + "\\("), 1);
        }
        check.end();
    }
}
