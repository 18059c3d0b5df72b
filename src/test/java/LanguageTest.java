import java.io.IOException;
import java.nio.file.Files;
import java.nio.file.Path;
import java.util.HashSet;
import java.util.Set;
import java.util.regex.Matcher;
import java.util.regex.Pattern;

/** Some of the rules of LANGUAGE.md that can be seen in the source's text. */
public final class LanguageTest {
    private static final Check CHECK = new Check("LanguageTest");
    private static final String METHOD =
            "(?m)^ {4,8}(?:public |private )?(?:static )?(?:[\\w\\[\\]]+ )?(\\w+)\\(([^)]*)\\)(?: throws \\w+)? \\{$";

    public static void main(String[] args) throws IOException {
        String source = Files.readString(Path.of("src/main/java/DanceWine.java"));
        String code = source.replaceAll("(?s)/\\*.*?\\*/", "").replaceAll("//[^\n]*", "")
                .replaceAll("\"[^\"\n]*\"", "TEXT");
        String[] none = {"->", "::", "\\bcatch\\b", "\\btry\\b", "\\bfinally\\b", "\\bsynchronized\\b", "\\bassert\\b",
            "Exact\\(", "\\bstatic \\{", "\\bnew \\w+\\[\\w*\\]\\[", "TEXT \\+", "\\+ TEXT", "\\bvolatile\\b", "System\\.(?!arraycopy)",
            "(?m)^ {4,8}(?:private )?static (?!final)[\\w\\[\\]]+ \\w+( =|;)", "(?m)^    protected ", "\\bequals\\(",
            "(?m)^import (?!java\\.util\\.(Arrays|NoSuchElementException);)"};
        for (String n : none) {
            CHECK.due("how often " + n, Pattern.compile(n).matcher(code).results().count(), 0);
        }
        CHECK.due("at most 12 classes", Pattern.compile("\\bclass \\w+").matcher(code).results().count() <= 12, true);
        CHECK.due("signs up to 126", source.chars().allMatch(c -> c == 10 || c >= 32 && c < 127), true);
        methods(code);
        CHECK.end();
    }

    private static void methods(String code) {
        Matcher m = Pattern.compile(METHOD).matcher(code);
        Set<String> names = new HashSet<>();
        int many = 0;
        while (m.find()) {
            many++;
            String indent = m.group().replaceAll("\\S.*", "").replace("\n", "");
            String body = code.substring(m.end(), code.indexOf("\n" + indent + "}\n", m.end()));
            boolean isPublic = m.group().trim().startsWith("public ");
            CHECK.due(m.group(1) + " is no public one's name", !isPublic && names.contains(m.group(1)), false);
            if (isPublic) {
                names.add(m.group(1));
            }
            CHECK.due(m.group(1) + " has at most 60 lines", body.lines().count() <= 60, true);
            CHECK.due(m.group(1) + " takes at most 7", m.group(2).split(",").length <= 7, true);
            boolean constructor = m.group().trim().startsWith(m.group(1)) || m.group(1).equals("DanceWine");
            CHECK.due(m.group(1) + " throws in no constructor", constructor && body.contains("throw "), false);
        }
        CHECK.due("methods found", many > 80, true);
        CHECK.due("public ones found, the constructor among them", names.size(), 25);
    }
}
