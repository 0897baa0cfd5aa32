import java.io.IOException;
import java.lang.reflect.Method;
import java.lang.reflect.Modifier;
import java.net.URL;
import java.net.URLClassLoader;
import java.nio.file.Files;
import java.nio.file.Path;
import java.util.ArrayList;
import java.util.List;
import java.util.Map;
import java.util.Set;
import java.util.TreeSet;
import java.util.regex.Matcher;
import java.util.regex.Pattern;
import java.util.stream.Stream;

/** Whether what README.md says is so: its example is run, and its words are held against the document. */
public final class ReadmeTest {
    private static final Map<String, Long> FINDINGS = Map.of("BEYOND", Check.BEYOND, "MISSING", Check.MISSING,
        "SIZE", Check.SIZE, "KIND", Check.KIND, "FULL", Check.FULL, "NONE", Check.NONE, "HALTED", Check.HALTED);
    private static final Pattern TOLD = Pattern.compile("(x\\.(\\w+)\\(.*\\)); +// (-?\\d+|[A-Z]+)(?=:|$).*");
    private static final Check CHECK = new Check();

    public static void main(String[] args) throws Exception {
        String readme = Files.readString(Path.of("README.md"));
        String document = Files.readString(Path.of("../shared/DOC.md"));
        example(readme);
        calls(oneLine(readme), document);
        terms(oneLine(readme), oneLine(document));
        tests(readme);
        CHECK.end();
    }

    private static void holds(String what, boolean so) {
        CHECK.due(what, so ? 1 : 0, 1);
    }

    /** As both pages break their lines elsewhere, and a quotation has its own signs ahead of them. */
    private static String oneLine(String text) {
        return text.replaceAll("(?m)^> ", "").replaceAll("\\s+", " ");
    }

    // ---- the example

    private static void example(String readme) throws Exception {
        List<String> calls = new ArrayList<>();
        List<Long> due = new ArrayList<>();
        Set<String> used = new TreeSet<>(List.of("feed"));
        StringBuilder body = new StringBuilder();
        Matcher block = Pattern.compile("(?s)```java\n(.*?)```").matcher(readme);
        while (block.find()) {
            for (String line : block.group(1).split("\n")) {
                Matcher told = TOLD.matcher(line);
                holds("an answer is told: " + line, told.matches() || !line.contains("//") && !line.startsWith("x."));
                if (told.matches()) {
                    calls.add(told.group(1));
                    due.add(answer(told.group(3)));
                    used.add(told.group(2));
                    body.append("answers.add(").append(told.group(1)).append(");\n");
                } else {
                    body.append(line).append('\n');
                }
            }
        }
        List<Long> got = run(body.toString());
        CHECK.due("answers of the example", got.size(), due.size());
        for (int i = 0; i < Math.min(got.size(), due.size()); i++) {
            CHECK.due(calls.get(i), got.get(i), due.get(i));
        }
        CHECK.same("the calls in the example", used.toString(), face().toString());
    }

    private static long answer(String told) {
        return FINDINGS.containsKey(told) ? FINDINGS.get(told) : Long.parseLong(told);
    }

    private static Set<String> face() {
        Set<String> names = new TreeSet<>();
        for (Method m : ProvedMachine.class.getDeclaredMethods()) {
            if (Modifier.isPublic(m.getModifiers())) {
                names.add(m.getName());
            }
        }
        return names;
    }

    private static List<Long> run(String body) throws Exception {
        Path room = Files.createTempDirectory("readme");
        Path source = room.resolve("Example.java");
        Files.writeString(source, "public final class Example {\n"
            + "public static void run(java.util.List<Long> answers) {\n" + body + "}\n}\n");
        List<Long> answers = new ArrayList<>();
        int failed = new ProcessBuilder("javac", "-cp", System.getProperty("java.class.path"), "-d", room.toString(),
            source.toString()).inheritIO().start().waitFor();
        CHECK.due("compiling the example", failed, 0);
        if (failed == 0) {
            try (URLClassLoader loader = new URLClassLoader(new URL[] {room.toUri().toURL()})) {
                loader.loadClass("Example").getMethod("run", List.class).invoke(null, answers);
            }
        }
        Files.deleteIfExists(room.resolve("Example.class"));
        Files.delete(source);
        Files.delete(room);
        return answers;
    }

    // ---- the words

    private static void calls(String readme, String document) {
        Matcher promise = Pattern.compile("(?m)^## Promise (\\d+): .*\n\n(.*)$").matcher(document);
        int count = 0;
        while (promise.find()) {
            count++;
            holds("the words of promise " + promise.group(1), readme.contains(oneLine("- " + promise.group(2))));
        }
        CHECK.due("promises", count, 25);
    }

    /** What README.md tells of the terms has to stand in the document, too. */
    private static void terms(String readme, String document) {
        for (String words : List.of(
            "FINDINGS are answers below all others: LOW is -9000000000000000; LOW - 1 BEYOND, LOW - 2 MISSING, LOW - 3"
                + " SIZE, LOW - 4 KIND, LOW - 5 FULL, LOW - 6 NONE, LOW - 7 HALTED. Each act tells its findings in the"
                + " order in which they are asked; one that answers a finding changes nothing but what found() tells.",
            "0 int, 1 bool, 2 row, 3 list",
            "1 DONE; 2 / by 0; 3 no such place in a row; 4 size, [ ] of no row, head, tail of none; 5 new of below 0 or"
                + " above 9; 6 no OBJECT is free behind CLEARING",
            "7 more than 30 on the STACK, or a ninth FRAME; 8 the twenty-first to be printed.",
            "the place at which it was, how many VALUES the STACK had ahead of it, how many behind it, and what the"
                + " highest one TOLD then")) {
            holds("in README.md: " + words, readme.contains(words));
            holds("in the document: " + words, document.contains(words));
        }
    }

    private static void tests(String readme) throws IOException {
        holds("how the tests are run", readme.contains("\n    .ci/run\n") && Files.isExecutable(Path.of(".ci/run")));
        try (Stream<Path> files = Files.list(Path.of("src/test/java"))) {
            for (Path file : files.sorted().toList()) {
                String name = file.getFileName().toString().replace(".java", "");
                holds(name + " is told", readme.contains("`" + name + "`"));
            }
        }
    }
}
