import java.io.IOException;
import java.lang.reflect.Method;
import java.lang.reflect.Modifier;
import java.nio.file.Files;
import java.nio.file.Path;
import java.util.List;
import java.util.Set;
import java.util.TreeSet;
import java.util.regex.Matcher;
import java.util.regex.Pattern;
import java.util.stream.Collectors;
import java.util.stream.Stream;

/** What README.md says of the use of the class, of its parts and of its tests holds as it stands there. */
public final class ReadmeTest {
    private static final Pattern CALL = Pattern.compile("(?:int \\w+ = )?desk\\.(\\w+)\\((.*)\\); *// (.*)");
    private static String readme;

    public static void main(String[] args) throws IOException, ReflectiveOperationException {
        readme = Files.readString(Path.of("README.md"));
        program();
        text();
        reasons();
        calls();
        classes();
        tests();
        Bench.close("ReadmeTest");
    }

    /** What stands in the block of that kind. */
    private static List<String> block(String kind) {
        int start = readme.indexOf("```" + kind + "\n") + kind.length() + 4;
        return readme.substring(start, readme.indexOf("```", start)).lines().collect(Collectors.toList());
    }

    /** The rows of the table whose first head is that one. */
    private static List<String[]> table(String head) {
        return readme.substring(readme.indexOf("\n| " + head + " |")).lines().skip(3)
                .takeWhile(line -> line.startsWith("|"))
                .map(line -> line.substring(1).split("(?<!\\\\)\\|"))
                .collect(Collectors.toList());
    }

    private static Set<String> quoted(String cell, String what) {
        return Pattern.compile("`(" + what + ")`").matcher(cell).results().map(found -> found.group(1))
                .collect(Collectors.toCollection(TreeSet::new));
    }

    private static Set<String> firstCells(String head, String what) {
        return table(head).stream().flatMap(row -> quoted(row[0], what).stream())
                .collect(Collectors.toCollection(TreeSet::new));
    }

    /** The program is run line by line; what stands behind a call is its answer, or for feed the bytes. */
    private static void program() throws ReflectiveOperationException {
        ProofDesk desk = new ProofDesk();
        List<String> lines = block("java");
        Bench.due("the first line", lines.get(0), "ProofDesk desk = new ProofDesk();");
        for (String line : lines.subList(1, lines.size())) {
            Matcher call = CALL.matcher(line);
            Bench.due(line + ": a call with its answer", call.matches(), true);
            int answer = (Integer) perform(desk, call.group(1), call.group(2));
            String told = call.group(3).split("[:,]")[0];
            if (call.group(1).equals("feed")) {
                Bench.due(line, spelled(call.group(2)).strip(), call.group(3).strip());
            } else {
                Bench.due(line, answer, told.startsWith("'") ? told.charAt(1) : Integer.parseInt(told));
            }
        }
        StringBuilder paper = new StringBuilder();
        for (int i = 0; i < desk.paper(); i++) {
            paper.append((char) desk.printed(i));
        }
        Bench.due("what it prints is told", readme.contains("\"" + paper.toString().strip() + "\""), true);
    }

    private static Object perform(ProofDesk desk, String name, String arguments) throws ReflectiveOperationException {
        Object[] numbers = Stream.of(arguments.split(", *")).filter(one -> !one.isEmpty())
                .map(one -> (Object) Long.decode(one).intValue()).toArray();
        Class<?>[] types = Stream.of(numbers).map(one -> int.class).toArray(Class<?>[]::new);
        return ProofDesk.class.getMethod(name, types).invoke(desk, numbers);
    }

    private static String spelled(String arguments) {
        StringBuilder bytes = new StringBuilder();
        for (String one : arguments.split(", *")) {
            for (int shift = 24; shift >= 0; shift -= 8) {
                bytes.append((char) (Long.decode(one) >> shift & 255));
            }
        }
        return bytes.toString();
    }

    private static void text() {
        Bench bench = new Bench();
        int verdicts = bench.end(String.join("\n", block("text")));
        for (int k = 0; k < verdicts; k++) {
            Bench.due("the text: verdict " + k, bench.verdict(k, 0), 0);
        }
        Bench.due("what the text prints is told", readme.contains("prints `" + bench.read().replace("/", "") + "`"), true);
    }

    private static void reasons() {
        List<String[]> rows = table("reason");
        Bench.due("14 reasons", rows.size(), 14);
        for (int i = 0; i < rows.size(); i++) {
            int reason = Integer.parseInt(rows.get(i)[0].strip());
            Bench.due("reasons in their order", reason, i + 1);
            for (String example : quoted(rows.get(i)[2], "[^`]*")) {
                Bench bench = new Bench();
                int last = bench.end(example.replace("\\|", "|")) - 1;
                Bench.due(example + " is refused", bench.verdict(last, 0), 1);
                Bench.due(example + " for the reason", bench.verdict(last, 1), reason);
                Bench.due(example + " has no other fault", last == 0 || bench.verdict(0, 0) == 0, true);
            }
            Bench.due(reason + " has an example", quoted(rows.get(i)[2], "[^`]*").size(), reason < 13 ? 1 : 0);
        }
    }

    private static void calls() {
        Set<String> told = firstCells("call", "\\w+\\([^`]*\\)").stream()
                .map(call -> call.replaceAll("\\(.*", "/" + (call.contains("()") ? 0 : call.split(",").length)))
                .collect(Collectors.toCollection(TreeSet::new));
        Set<String> there = new TreeSet<>();
        for (Method method : ProofDesk.class.getDeclaredMethods()) {
            if (Modifier.isPublic(method.getModifiers())) {
                there.add(method.getName() + "/" + method.getParameterCount());
            }
        }
        Bench.due("the calls", told.toString(), there.toString());
        Bench.due("the fuel of a new desk is told", readme.contains("begins with " + new ProofDesk().fuel(1)), true);
    }

    private static void classes() {
        Set<String> there = Stream.of(ProofDesk.class.getDeclaredClasses()).map(Class::getSimpleName)
                .collect(Collectors.toCollection(TreeSet::new));
        Bench.due("the classes", firstCells("class", "\\w+").toString(), there.toString());
    }

    private static void tests() throws IOException {
        try (Stream<Path> files = Files.list(Path.of("src/test/java"))) {
            Set<String> there = files.map(file -> file.getFileName().toString().replace(".java", ""))
                    .filter(name -> name.endsWith("Test")).collect(Collectors.toCollection(TreeSet::new));
            Bench.due("the tests", firstCells("test", "\\w+").toString(), there.toString());
        }
        Bench.due(".ci/run can be run", Files.isExecutable(Path.of(".ci/run")), true);
    }
}
