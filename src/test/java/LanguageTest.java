import java.io.IOException;
import java.nio.file.Files;
import java.nio.file.Path;
import java.util.ArrayList;
import java.util.List;
import java.util.TreeSet;
import java.util.regex.Matcher;
import java.util.regex.Pattern;

/** Rules of ../shared/LANGUAGE.md that can be seen in the program's text. */
public final class LanguageTest {
    private static final String FACE = "one way told as turns set ink scar about slides at rule deal seed days land journey reach "
        + "company regiment dear behind arrives inks becomes like fee fine feed trim text textTold why sheet mark pour reads copy "
        + "lay ask item rest tell check keep back count";
    private static final Due due = new Due();

    public static void main(String[] args) throws IOException {
        String source = Files.readString(Path.of("src/main/java/TattooRoads.java"));
        String code = withoutCommentsAndTexts(source);
        forbiddenWords(code);
        methods(code);
        classes(code);
        statics(code);
        due.end();
    }

    private static String withoutCommentsAndTexts(String source) {
        return source.replaceAll("(?s)/\\*.*?\\*/", "").replaceAll("//[^\n]*", "")
            .replaceAll("\"[^\"\n]*\"", "\"\"").replaceAll("'[^'\n]'", "' '");
    }

    private static void none(String rule, String code, String pattern) {
        Matcher matcher = Pattern.compile(pattern).matcher(code);
        while (matcher.find()) {
            due.is(rule + ": " + matcher.group().trim(), 0, 1);
        }
        due.is(rule, 0, 0);
    }

    private static void forbiddenWords(String code) {
        none("no package, no import", code, "\\b(package|import)\\b");
        none("no exceptions", code, "\\b(throw|throws|try|catch|finally|assert|synchronized)\\b");
        none("no lambdas, no method references", code, "->|::");
        none("none whose name ends in Exact", code, "\\w+Exact\\b");
        none("no doubles, no floats", code, "\\b(double|float)\\b");
        none("no clock, no randomness", code, "\\b(Random|nanoTime|currentTimeMillis|Thread)\\b");
        none("no equals, hashCode, toString of own objects", code, "\\b(boolean equals|int hashCode|String toString)\\b");
        none("texts are not joined by +", code, "\"\" *\\+|\\+ *\"\"");
        none("no anonymous class", code, "new \\w+\\([^;{]*\\) *\\{");
        none("the library: only what stands there", code,
            "\\b(?!(?:Kinds\\.\\w+|Math\\.(?:min|max)|Integer\\.bitCount|System\\.arraycopy)\\b)[A-Z][a-z]\\w*\\.(?!length\\b)[a-z]\\w*\\(");
    }

    private static void methods(String code) {
        List<String> face = List.of(FACE.split(" "));
        List<String> found = new ArrayList<>();
        Matcher matcher = Pattern.compile("(?m)^( +)((?:public |private |static |final )*)(?!public)(\\w+(?:\\[\\])*) (\\w+)\\(([^)]*)\\) \\{$")
            .matcher(code);
        int many = 0;
        while (matcher.find()) {
            many++;
            String name = matcher.group(4);
            boolean open = matcher.group(2).contains("public ");
            if (open) {
                found.add(name);
            }
            due.is("bears the name of a public one: " + name, 0, !open && face.contains(name) ? 1 : 0);
            due.is("a method of the class itself is public or private: " + name, 1,
                matcher.group(1).length() > 4 || open || matcher.group(2).contains("private ") ? 1 : 0);
            int parameters = matcher.group(5).isEmpty() ? 0 : matcher.group(5).split(",").length;
            due.is("at most seven parameters: " + name, 1, parameters <= 7 ? 1 : 0);
            int end = code.indexOf("\n" + matcher.group(1) + "}", matcher.end());
            long lines = code.substring(matcher.start(), end).lines().count() + 1;
            due.is("at most sixty lines: " + name, 1, lines <= 60 ? 1 : 0);
        }
        due.is("methods were looked at", 1, many > 80 ? 1 : 0);
        due.is("the face, in the document's order", 1, found.equals(face) ? 1 : 0);
    }

    private static void classes(String code) {
        TreeSet<String> names = new TreeSet<>();
        Matcher matcher = Pattern.compile("(?m)^( *)(.*)\\bclass (\\w+)").matcher(code);
        while (matcher.find()) {
            names.add(matcher.group(3));
            boolean right = matcher.group(1).isEmpty() ? matcher.group(2).equals("public final ")
                : matcher.group(2).equals("private static final ");
            due.is("class " + matcher.group(3), 1, right ? 1 : 0);
        }
        due.is("at most twelve classes", 1, names.size() > 1 && names.size() <= 12 ? 1 : 0);
    }

    private static void statics(String code) {
        Matcher matcher = Pattern.compile("(?m)^ +.*\\bstatic\\b(?!.*[({]$).*;$").matcher(code);
        while (matcher.find()) {
            due.is("static fields are final: " + matcher.group().trim(), 1,
                matcher.group().contains("static final int ") || matcher.group().contains("static final int[] ") ? 1 : 0);
        }
        none("no static initialiser block", code, "static *\\{");
    }
}
