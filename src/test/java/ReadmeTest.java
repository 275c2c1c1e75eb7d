import java.io.IOException;
import java.lang.reflect.Method;
import java.lang.reflect.Modifier;
import java.nio.file.Files;
import java.nio.file.Path;
import java.util.ArrayList;
import java.util.Comparator;
import java.util.List;
import java.util.TreeSet;
import java.util.regex.Matcher;
import java.util.regex.Pattern;
import java.util.stream.Stream;

/** What README.md says holds as it is written there: its examples, its list of calls, its commands, its places. */
public final class ReadmeTest {
    private static final Path README = Path.of("README.md"), CLASS = Path.of("src/main/java/OpensAtNine.java");
    private static final Path TESTS = Path.of("src/test/java");
    private static final Pattern BLOCK = Pattern.compile("(?ms)^```(\\w+)\n(.*?)^```$");
    private static final Pattern TELLING = Pattern.compile("(?:int (\\w+) = )?(.*);\\s*// (-?\\d+)(?::.*)?");
    private static final Pattern CALL = Pattern.compile("`(\\w+)\\(([^)`]*)\\)`");
    private static final Pattern PLACE = Pattern.compile("`((?:\\.\\./|\\.ci/|src/)[\\w./]+)`");
    private static final int LEAST_TOLD = 40;

    private final String readme;
    private final Path build;
    private int told, wrong;

    private ReadmeTest(Path build) throws IOException {
        readme = Files.readString(README);
        this.build = build;
    }

    public static void main(String[] args) throws IOException, InterruptedException {
        Path build = Files.createTempDirectory("readme");
        ReadmeTest test = new ReadmeTest(build);
        try {
            test.examples();
            test.commands();
        } finally {
            remove(build);
        }
        test.calls();
        test.places();
        System.out.println(test.told + " answers told by README.md, " + test.wrong + " things that do not hold");
        if (test.wrong != 0) System.exit(1);
    }

    private void must(boolean is, String what) {
        if (is) return;
        wrong++;
        System.out.println("README.md: " + what);
    }

    private static void remove(Path place) throws IOException {
        List<Path> all = new ArrayList<>();
        try (Stream<Path> found = Files.walk(place)) {
            found.sorted(Comparator.reverseOrder()).forEach(all::add);
        }
        for (Path one : all) Files.delete(one);
    }

    private List<String> blocks(String language) {
        List<String> blocks = new ArrayList<>();
        Matcher block = BLOCK.matcher(readme);
        while (block.find()) if (block.group(1).equals(language)) blocks.add(block.group(2));
        return blocks;
    }

    /** All examples are one program, in their order; behind each line the answer that it tells is looked at. */
    private void examples() throws IOException, InterruptedException {
        StringBuilder members = new StringBuilder(), lines = new StringBuilder();
        for (String block : blocks("java")) {
            if (block.startsWith("static ")) members.append(block);
            else for (String line : block.split("\n")) lines.append(line(line)).append('\n');
        }
        must(told >= LEAST_TOLD, "only " + told + " answers are told");
        Path example = build.resolve("Example.java");
        Files.writeString(example, "class Example {\nstatic int wrong;\n"
            + "static void due(String line, long got, long want) {\n"
            + "if (got != want) { wrong++; System.out.println(line + \" .. answered \" + got); }\n}\n"
            + members + "public static void main(String[] none) {\n" + lines + "System.exit(wrong == 0 ? 0 : 1);\n}\n}\n");
        must(run("javac", "-encoding", "UTF-8", "-d", build.toString(), CLASS.toString(), example.toString())
            && run("java", "-cp", build.toString(), "Example"), "its examples do not answer so");
    }

    private String line(String line) {
        Matcher telling = TELLING.matcher(line);
        if (!telling.matches()) return line;
        told++;
        String name = telling.group(1), call = telling.group(2), want = telling.group(3);
        String quoted = '"' + line.replace("\\", "\\\\").replace("\"", "\\\"") + '"';
        if (name == null) return "due(" + quoted + ", " + call + ", " + want + ");";
        return "int " + name + " = " + call + "; due(" + quoted + ", " + name + ", " + want + ");";
    }

    /** .ci/run runs this test: it can't be run by it. */
    private void commands() throws IOException, InterruptedException {
        int ran = 0;
        for (String block : blocks("sh")) {
            if (block.strip().equals(".ci/run")) continue;
            must(run("sh", "-e", "-c", block), "these commands fail:\n" + block);
            ran++;
        }
        must(ran > 0, "no commands for one test alone");
        must(Files.isExecutable(Path.of(".ci/run")), ".ci/run can't be run");
    }

    private boolean run(String... command) throws IOException, InterruptedException {
        ProcessBuilder process = new ProcessBuilder(command).redirectErrorStream(true);
        process.environment().put("TMPDIR", build.toString());
        Path said = Files.createTempFile(build, "said", ".txt");
        boolean well = process.redirectOutput(said.toFile()).start().waitFor() == 0;
        if (!well) System.out.print(Files.readString(said));
        return well;
    }

    private void calls() {
        TreeSet<String> listed = new TreeSet<>(), face = new TreeSet<>();
        Matcher call = CALL.matcher(section("### All calls"));
        while (call.find()) {
            String numbers = call.group(2);
            listed.add(call.group(1) + " of " + (numbers.isEmpty() ? 0 : numbers.split(", ").length));
        }
        for (Method m : OpensAtNine.class.getDeclaredMethods()) {
            if (Modifier.isPublic(m.getModifiers())) face.add(m.getName() + " of " + m.getParameterCount());
        }
        must(listed.equals(face), "the calls are " + face + ", listed are " + listed);
    }

    private String section(String name) {
        int from = readme.indexOf(name + "\n"), to = from < 0 ? -1 : readme.indexOf("\n#", from);
        return from < 0 ? "" : readme.substring(from, to < 0 ? readme.length() : to);
    }

    private void places() throws IOException {
        Matcher place = PLACE.matcher(readme);
        while (place.find()) must(Files.exists(Path.of(place.group(1))), "there is no " + place.group(1));
        try (Stream<Path> tests = Files.list(TESTS)) {
            tests.forEach(t -> must(readme.contains("`" + TESTS + "/" + t.getFileName() + "`"), "it does not name " + t));
        }
    }
}
