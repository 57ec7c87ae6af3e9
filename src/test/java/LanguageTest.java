import java.nio.file.Files;
import java.nio.file.Path;
import java.util.List;
import java.util.Set;
import java.util.TreeSet;
import java.util.regex.Matcher;
import java.util.regex.Pattern;

/** What of LANGUAGE.md can be seen in the program's text. */
public final class LanguageTest {
    public static void main(String[] args) throws Exception {
        List<String> lines = Files.readAllLines(Path.of("src", "main", "java", "EveryMeasure.java"));
        String code = String.join("\n", lines).replaceAll("(?s)/\\*.*?\\*/", "").replaceAll("//[^\n]*", "");
        String bare = code.replaceAll("\"[^\"]*\"", "\"\"");
        for (String never : List.of("->", "::", "\\bfinally\\b", "\\bsynchronized\\b", "\\bassert\\b", "\\bpackage\\b", "Exact\\(",
                "\\bcatch\\b", "\\bprotected\\b", "static \\{", "\\bSystem\\b", "\\bdouble\\b", "\\bfloat\\b", "while \\(true\\)", "for \\(;;",
                "\\bequals\\b", "hashCode", "toString", "\\bnull\\b", "getMessage")) {
            Due.is("no " + never, false, Pattern.compile(never).matcher(bare).find());
        }
        Due.is("imports", 1, count(bare, "(?m)^import "));
        Due.is("classes, some twelve", true, count(bare, "\\bclass \\w+") <= 12);
        Due.is("nested ones private, static and final", count(bare, "\\bclass \\w+") - 1, count(bare, "    private static final class \\w+"));
        Due.is("throws", count(bare, "throw new "), count(bare, "throw new NoSuchElementException\\("));
        methods(bare);
        Due.end();
    }

    private static int count(String text, String pattern) {
        int found = 0;
        Matcher matcher = Pattern.compile(pattern).matcher(text);
        while (matcher.find()) found++;
        return found;
    }

    private static void methods(String bare) {
        Set<String> open = new TreeSet<>();
        Set<String> hidden = new TreeSet<>();
        Matcher matcher = Pattern.compile("(?m)^( +)([\\w\\[\\] ]*?)(\\w+)\\(([^)]*)\\)(?: throws \\w+)? \\{$").matcher(bare);
        int found = 0;
        while (matcher.find()) {
            if (matcher.group(3).matches("if|for|while|switch")) continue;
            found++;
            String name = matcher.group(3);
            (matcher.group(2).contains("public") ? open : hidden).add(name);
            int parameters = matcher.group(4).isEmpty() ? 0 : matcher.group(4).split(",").length;
            Due.is(name + " has seven parameters at most", true, parameters <= 7);
            int end = bare.indexOf("\n" + matcher.group(1) + "}", matcher.start());
            Due.is(name + " has some sixty lines at most", true, count(bare.substring(matcher.start(), end), "\n") <= 60);
        }
        Due.is("methods were found", true, found > 100);
        hidden.retainAll(open);
        Due.is("methods that bear the name of a public one " + hidden, 0, hidden.size());
    }
}
