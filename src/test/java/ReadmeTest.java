import java.io.File;
import java.io.IOException;
import java.lang.reflect.Method;
import java.lang.reflect.Modifier;
import java.net.URL;
import java.net.URLClassLoader;
import java.nio.file.Files;
import java.nio.file.Path;
import java.util.ArrayList;
import java.util.List;
import java.util.Set;
import java.util.TreeSet;
import java.util.concurrent.TimeUnit;
import java.util.regex.Matcher;
import java.util.regex.Pattern;
import java.util.stream.Stream;
import javax.tools.ToolProvider;

/** What README.md shows: its calls are compiled and run as they stand there, its commands too. */
public final class ReadmeTest {
    /** A call on the object x, and behind it the answer that is told for it. */
    private static final Pattern CALL = Pattern.compile("x\\.(\\w+)\\((.*)\\); *// (true|false|-?\\d+|NONE|throws \\w+)(: .*)?");

    private final String page;
    /** The calls as they are shown, without their answers, and the answers. */
    private final List<String> calls = new ArrayList<>();
    private final List<String> due = new ArrayList<>();
    private final Set<String> names = new TreeSet<>();

    private ReadmeTest() throws IOException {
        page = Files.readString(Path.of("README.md"));
    }

    public static void main(String[] args) throws Exception {
        ReadmeTest test = new ReadmeTest();
        Path room = Files.createTempDirectory("readme");
        try {
            test.callsAnswerAsShown(room);
            test.eachCallOfTheFaceIsShown();
            test.textsCanBeRead();
            test.commandsWork(room);
            test.eachTestIsNamed();
        } finally {
            remove(room);
        }
        Due.end();
    }

    private List<String> blocks() {
        List<String> blocks = new ArrayList<>();
        Matcher matcher = Pattern.compile("(?ms)^```java\n(.*?)^```$").matcher(page);
        while (matcher.find()) blocks.add(matcher.group(1));
        return blocks;
    }

    // ---- the calls

    private void callsAnswerAsShown(Path room) throws Exception {
        Path source = room.resolve("Shown.java");
        Files.writeString(source, program());
        int rc = ToolProvider.getSystemJavaCompiler().run(null, null, null,
            "-cp", System.getProperty("java.class.path"), "-d", room.toString(), source.toString());
        Due.is("what README.md shows compiles", 0, rc);
        Due.is("calls are shown", true, calls.size() > 60);
        if (rc != 0) return;
        try (URLClassLoader loader = new URLClassLoader(new URL[] {room.toUri().toURL()})) {
            List<?> got = (List<?>) loader.loadClass("Shown").getMethod("answers").invoke(null);
            Due.is("answers", due.size(), got.size());
            for (int i = 0; i < due.size() && i < got.size(); i++) {
                boolean same = got.get(i).equals(due.get(i));
                Due.is("README.md's call " + i + ", " + calls.get(i) + ", is due " + due.get(i) + " and is " + got.get(i), true, same);
            }
        }
    }

    /** All blocks are one program: those that begin with 'static' are its methods, the others follow one another. */
    private String program() {
        StringBuilder methods = new StringBuilder();
        StringBuilder steps = new StringBuilder();
        for (String block : blocks()) {
            if (block.startsWith("static")) methods.append(block);
            else for (String line : block.split("\n")) steps.append(step(line.trim())).append('\n');
        }
        return "import java.util.*;\nimport java.util.concurrent.Callable;\npublic final class Shown {\n" + methods
            + "static String answer(Callable<Object> call) throws Exception {\n"
            + "try { return String.valueOf(call.call()); }\n"
            + "catch (RuntimeException e) { return \"throws \" + e.getClass().getSimpleName(); }\n}\n"
            + "public static List<String> answers() throws Exception {\nList<String> answers = new ArrayList<>();\n"
            + steps + "return answers;\n}\n}\n";
    }

    private String step(String line) {
        Matcher matcher = CALL.matcher(line);
        if (!matcher.matches()) {
            Due.is("a call with its answer behind it: " + line, false, line.contains("x."));
            return line;
        }
        names.add(matcher.group(1));
        calls.add("x." + matcher.group(1) + "(" + matcher.group(2) + ")");
        due.add(matcher.group(3).equals("NONE") ? Integer.toString(EveryMeasure.NONE) : matcher.group(3));
        return "answers.add(answer(() -> " + calls.get(calls.size() - 1) + "));";
    }

    private void eachCallOfTheFaceIsShown() {
        for (Method method : EveryMeasure.class.getDeclaredMethods()) {
            if (!Modifier.isPublic(method.getModifiers())) continue;
            Due.is("README.md shows " + method.getName(), true, names.contains(method.getName()));
        }
    }

    /** The table of the language: each word of it, each text without a fault. */
    private void textsCanBeRead() {
        Set<String> words = new TreeSet<>();
        Matcher matcher = Pattern.compile("`((?:[a-h] )?([a-z]+)[ 0-9]+;)`").matcher(page);
        while (matcher.find()) {
            words.add(matcher.group(2));
            Due.is("choice() of README.md's '" + matcher.group(1) + "'", 0, Due.read(new EveryMeasure(), matcher.group(1)));
        }
        for (String word : "less cap must more twice step least most better".split(" ")) {
            Due.is("README.md shows " + word, true, words.contains(word));
        }
    }

    // ---- the commands

    private List<String> commands() {
        String part = page.substring(page.indexOf("## How to run its tests"));
        List<String> commands = new ArrayList<>();
        for (String line : part.split("\n")) if (line.startsWith("    ")) commands.add(line.trim());
        return commands;
    }

    /** The first is what runs this test, so it is only looked at; the others run in a checkout beside which shared stands. */
    private void commandsWork(Path room) throws Exception {
        List<String> commands = commands();
        Due.is("the first command is .ci/run", true, commands.size() > 1 && commands.get(0).equals(".ci/run"));
        Due.is(".ci/run can be run", true, Files.isExecutable(Path.of(".ci", "run")));
        Path checkout = Files.createDirectory(room.resolve("checkout"));
        for (String held : new String[] {"README.md", ".ci", "src"}) {
            Files.createSymbolicLink(checkout.resolve(held), Path.of(held).toAbsolutePath());
        }
        Files.createSymbolicLink(room.resolve("shared"), Path.of("..", "shared").toRealPath());
        for (String command : commands.subList(1, commands.size())) {
            Due.is("README.md's command " + command, 0, ended(checkout, command, room.resolve("told").toFile()));
        }
    }

    private static int ended(Path where, String command, File told) throws Exception {
        Process process = new ProcessBuilder("bash", "-c", command).directory(where.toFile())
            .redirectErrorStream(true).redirectOutput(told).start();
        boolean inTime = process.waitFor(10, TimeUnit.MINUTES);
        if (!inTime) process.destroyForcibly();
        int rc = inTime ? process.exitValue() : -1;
        if (rc != 0) System.out.println(Files.readString(told.toPath()));
        return rc;
    }

    private void eachTestIsNamed() throws IOException {
        Set<String> there = new TreeSet<>();
        try (Stream<Path> files = Files.list(Path.of("src", "test", "java"))) {
            files.map(f -> f.getFileName().toString()).filter(f -> f.endsWith("Test.java"))
                .forEach(f -> there.add(f.substring(0, f.length() - ".java".length())));
        }
        Set<String> named = new TreeSet<>();
        Matcher matcher = Pattern.compile("(?m)^\\| (\\w+Test) \\|").matcher(page);
        while (matcher.find()) named.add(matcher.group(1));
        Due.is("README.md names " + named + ", there are " + there, true, named.equals(there));
    }

    private static void remove(Path room) throws IOException {
        List<Path> all;
        try (Stream<Path> walked = Files.walk(room)) {
            all = new ArrayList<>(walked.toList());
        }
        // What stands inside a directory goes ahead of it.
        for (int i = all.size() - 1; i >= 0; i--) Files.deleteIfExists(all.get(i));
    }
}
