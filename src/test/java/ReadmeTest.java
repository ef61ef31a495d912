import java.io.IOException;
import java.nio.file.Files;
import java.nio.file.Path;
import java.util.ArrayList;
import java.util.Comparator;
import java.util.List;
import java.util.Set;
import java.util.TreeSet;
import java.util.regex.Matcher;
import java.util.regex.Pattern;
import java.util.stream.Stream;

/** What README.md says is so: its programs answer as they tell, its commands run, its tables are whole. */
public final class ReadmeTest {
    private static final Pattern BLOCK = Pattern.compile("(?ms)^```(\\w+)\n(.*?)^```$");
    private static final Pattern TOLD = Pattern.compile("(.+);\\s+// (-?\\d+): .+");
    private static final Pattern NAMED = Pattern.compile("`(\\w+(?:Test|Sentences))`");
    private static final Pattern ROW_OF_PROMISES = Pattern.compile("(?m)^\\| `(\\w+Sentences)` \\| ([0-9][^|]*) \\|$");
    private static final Pattern QUOTED_UNDER = Pattern.compile("says\\((\\d+),");
    private static final Path TESTS = Path.of("src/test/java");
    private static final String WHOLE_RUN = "bash .ci/run";

    private final Check check = new Check();
    private final String readme;
    private final Path work;

    private ReadmeTest(Path work) throws IOException {
        readme = Files.readString(Path.of("README.md"));
        this.work = work;
    }

    public static void main(String[] args) throws Exception {
        Path work = Files.createTempDirectory("readme");
        try {
            new ReadmeTest(work).all();
        } finally {
            remove(work);
        }
    }

    private static void remove(Path folder) throws IOException {
        try (Stream<Path> all = Files.walk(folder)) {
            for (Path path : all.sorted(Comparator.reverseOrder()).toList()) {
                Files.delete(path);
            }
        }
    }

    private void all() throws Exception {
        programs();
        commands();
        namesOfTests();
        promisesOfFiles();
        check.end();
    }

    private List<String> blocks(String language) {
        List<String> all = new ArrayList<>();
        for (Matcher m = BLOCK.matcher(readme); m.find();) {
            if (m.group(1).equals(language)) {
                all.add(m.group(2));
            }
        }
        return all;
    }

    private boolean runs(Path in, String... command) throws Exception {
        Process process = new ProcessBuilder(command).directory(in.toFile()).redirectErrorStream(true).start();
        String printed = new String(process.getInputStream().readAllBytes());
        boolean isWell = process.waitFor() == 0;
        if (!isWell) {
            System.out.println(String.join(" ", command) + "\n" + printed);
        }
        return isWell;
    }

    private static String tool(String name) {
        return Path.of(System.getProperty("java.home"), "bin", name).toString();
    }

    /** All its programs in one, with a check for each answer that it tells. */
    private void programs() throws Exception {
        StringBuilder members = new StringBuilder();
        StringBuilder main = new StringBuilder();
        List<String> all = blocks("java");
        check.holds("there are programs", all.size() >= 4);
        for (String block : all) {
            if (block.startsWith("static ")) {
                members.append(block);
            } else {
                main.append("{\n").append(checked(block)).append("}\n");
            }
        }
        String program = "public final class ReadmePrograms {\n" + members
            + "public static void main(String[] args) {\nCheck check = new Check();\n" + main + "check.end();\n}\n}\n";
        Path file = work.resolve("ReadmePrograms.java");
        Files.writeString(file, program);
        String classes = System.getProperty("java.class.path");
        String both = Path.of(classes).toAbsolutePath() + System.getProperty("path.separator") + work;
        check.holds("its programs compile", runs(work, tool("javac"), "--release", "17", "-Xlint:all", "-Werror",
            "-cp", both, "-d", work.toString(), file.toString()));
        check.holds("its programs answer so", runs(work, tool("java"), "-cp", both, "ReadmePrograms"));
    }

    private String checked(String block) {
        StringBuilder all = new StringBuilder();
        int told = 0;
        for (String line : block.split("\n")) {
            Matcher m = TOLD.matcher(line);
            if (m.matches()) {
                told++;
                all.append("check.due(\"").append(m.group(1).replace("\"", "\\\"")).append("\", ")
                    .append(m.group(1)).append(", ").append(m.group(2)).append("L);\n");
            } else {
                check.holds("an answer is told: " + line, !line.contains("//"));
                all.append(line).append('\n');
            }
        }
        check.holds("a program tells answers", told > 0);
        return all.toString();
    }

    /** In a folder that holds nothing but the sources; the whole run is what runs this test. */
    private void commands() throws Exception {
        Path copy = Files.createDirectory(work.resolve("copy"));
        check.holds("a copy", runs(Path.of("."), "cp", "-r", "src", copy.toString()));
        int wholeRuns = 0;
        for (String block : blocks("sh")) {
            if (block.trim().equals(WHOLE_RUN)) {
                wholeRuns++;
                continue;
            }
            check.holds("runs: " + block, runs(copy, "bash", "-e", "-c", block));
        }
        check.due("told how to run all tests", wholeRuns, 1);
        check.holds("that file is there", Files.isExecutable(Path.of(WHOLE_RUN.split(" ")[1])));
        check.holds("the class was compiled", Files.exists(copy.resolve("out/SampleLayers.class")));
    }

    private static Set<String> filesOfTests() throws IOException {
        Set<String> names = new TreeSet<>();
        try (Stream<Path> all = Files.list(TESTS)) {
            all.map(path -> path.getFileName().toString().replace(".java", ""))
                .filter(name -> name.endsWith("Test") || name.endsWith("Sentences") && !name.equals("Sentences"))
                .forEach(names::add);
        }
        return names;
    }

    private void namesOfTests() throws IOException {
        Set<String> named = new TreeSet<>();
        for (Matcher m = NAMED.matcher(readme); m.find();) {
            named.add(m.group(1));
        }
        check.holds("tests named " + named + ", there are " + filesOfTests(), named.equals(filesOfTests()));
    }

    /** Each file tests just the promises that the page tells of it, and together they test all. */
    private void promisesOfFiles() throws IOException {
        Set<Integer> all = new TreeSet<>();
        for (Matcher m = ROW_OF_PROMISES.matcher(readme); m.find();) {
            Set<Integer> told = numbers(m.group(2));
            Set<Integer> found = new TreeSet<>();
            String file = Files.readString(TESTS.resolve(m.group(1) + ".java"));
            for (Matcher says = QUOTED_UNDER.matcher(file); says.find();) {
                found.add(Integer.parseInt(says.group(1)));
            }
            check.holds(m.group(1) + " told " + told + ", found " + found, told.equals(found));
            all.addAll(told);
        }
        check.due("promises", all.size(), Document.PROMISES);
    }

    /** Of "1, 4 to 6": 1, 4, 5 and 6. */
    private static Set<Integer> numbers(String told) {
        Set<Integer> all = new TreeSet<>();
        for (String part : told.split(", ")) {
            String[] ends = part.split(" to ");
            int last = Integer.parseInt(ends[ends.length - 1]);
            for (int i = Integer.parseInt(ends[0]); i <= last; i++) {
                all.add(i);
            }
        }
        return all;
    }
}
