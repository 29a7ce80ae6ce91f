import java.io.ByteArrayOutputStream;
import java.io.IOException;
import java.io.PrintStream;
import java.net.URL;
import java.net.URLClassLoader;
import java.nio.file.Files;
import java.nio.file.Path;
import java.util.List;
import java.util.regex.Matcher;
import java.util.regex.Pattern;
import java.util.stream.Collectors;
import java.util.stream.Stream;

/** README.md: its example compiles and prints what stands there, its list names every test; run at the project's root. */
public final class ReadmeTest {
    private static int wrong = 0;

    private static void report(String text) {
        wrong++;
        System.out.println("README.md: " + text);
    }

    /** What stands between a line of three back quotes with a word and the next such line. */
    private static List<String> blocks(String readme, String word) {
        Matcher blocks = Pattern.compile("^```" + word + "\\n(.*?)^```$", Pattern.DOTALL | Pattern.MULTILINE).matcher(readme);
        return blocks.results().map(block -> block.group(1)).collect(Collectors.toList());
    }

    private static List<Path> filesOf(Path folder) throws IOException {
        try (Stream<Path> files = Files.list(folder)) {
            return files.sorted().collect(Collectors.toList());
        }
    }

    private static void dueExample(String readme, Path folder) throws Exception {
        List<String> programs = blocks(readme, "java");
        List<String> answers = blocks(readme, "text");
        if (programs.size() != 1 || answers.size() != 1) {
            report("one example and one text that it prints are due");
            return;
        }
        Path source = folder.resolve("Example.java");
        Files.writeString(source, programs.get(0));
        String classPath = System.getProperty("java.class.path");
        Process javac = new ProcessBuilder("javac", "-nowarn", "-classpath", classPath, "-d", folder.toString(),
                source.toString()).inheritIO().start();
        if (javac.waitFor() != 0) {
            report("the example does not compile");
            return;
        }
        List<String> got = printed(folder).lines().collect(Collectors.toList());
        List<String> want = answers.get(0).lines().collect(Collectors.toList());
        for (int k = 0; k < Math.max(got.size(), want.size()); k++) {
            String line = k < got.size() ? got.get(k) : "no line";
            String due = k < want.size() ? want.get(k) : "no line";
            if (!line.equals(due)) {
                report("line " + k + " of the example is '" + line + "', README.md says '" + due + "'");
            }
        }
    }

    private static String printed(Path folder) throws Exception {
        PrintStream before = System.out;
        ByteArrayOutputStream bytes = new ByteArrayOutputStream();
        try (URLClassLoader loader = new URLClassLoader(new URL[] {folder.toUri().toURL()}, ReadmeTest.class.getClassLoader())) {
            System.setOut(new PrintStream(bytes, true));
            loader.loadClass("Example").getMethod("main", String[].class).invoke(null, (Object) new String[0]);
        } finally {
            System.setOut(before);
        }
        return bytes.toString();
    }

    private static void dueTestNames(String readme) throws IOException {
        for (Path file : filesOf(Path.of("tests"))) {
            String name = file.getFileName().toString();
            if (name.endsWith(".java") && !readme.contains("`tests/" + name + "`")) {
                report("does not name tests/" + name);
            }
        }
        Matcher names = Pattern.compile("tests/\\w+\\.java").matcher(readme);
        while (names.find()) {
            if (!Files.exists(Path.of(names.group()))) {
                report("names " + names.group() + ", which is not there");
            }
        }
        if (!readme.contains(".ci/run")) {
            report("does not say how the tests are run");
        }
    }

    public static void main(String[] args) throws Exception {
        String readme = Files.readString(Path.of("README.md"));
        Path folder = Files.createTempDirectory("readme");
        try {
            dueExample(readme, folder);
        } finally {
            for (Path file : filesOf(folder)) {
                Files.delete(file);
            }
            Files.delete(folder);
        }
        dueTestNames(readme);
        System.out.println("README.md: " + wrong + " faults");
        if (wrong != 0) {
            System.exit(1);
        }
    }
}
