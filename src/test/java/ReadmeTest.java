import java.io.IOException;
import java.io.InputStream;
import java.nio.charset.StandardCharsets;
import java.nio.file.Files;
import java.nio.file.Path;
import java.util.ArrayList;
import java.util.Comparator;
import java.util.List;
import java.util.regex.Matcher;
import java.util.regex.Pattern;
import java.util.stream.Stream;

/** What README.md says holds: its example prints what stands there, its commands run, its tests are there. */
public final class ReadmeTest {
    private static int wrong = 0;

    public static void main(String[] args) throws Exception {
        String readme = Files.readString(Path.of("README.md"), StandardCharsets.UTF_8);
        Path work = Files.createTempDirectory("readme");
        try {
            copySources(work);
            theExample(readme, work);
            theTestAlone(readme, work);
        } finally {
            remove(work);
        }
        theCalls(readme);
        theFiles(readme);
        System.out.println(wrong == 0 ? "README.md holds" : wrong + " wrong");
        if (wrong > 0) {
            System.exit(1);
        }
    }

    private static void check(String what, boolean good) {
        if (!good) {
            wrong++;
            System.out.println("not so: " + what);
        }
    }

    // ---- the example and the commands

    private static void theExample(String readme, Path work) throws Exception {
        String program = blockWith(readme, "java", "class Example");
        Files.writeString(work.resolve("Example.java"), program, StandardCharsets.UTF_8);
        List<String> due = toldBehind(program);
        check("the example prints something", !due.isEmpty());
        String printed = run(blockWith(readme, "sh", "Example"), work);
        check("the example prints " + due + ", printed is " + printed,
                printed.equals(String.join("\n", due) + "\n"));
    }

    /** The answers that stand behind the lines that print, as comments. */
    private static List<String> toldBehind(String program) {
        List<String> told = new ArrayList<>();
        for (String line : program.split("\n")) {
            if (line.contains("System.out.println")) {
                Matcher answer = Pattern.compile("// (-?\\d+): ").matcher(line);
                told.add(answer.find() ? answer.group(1) : "nothing told in " + line);
            }
        }
        return told;
    }

    private static void theTestAlone(String readme, Path work) throws Exception {
        String printed = run(blockWith(readme, "sh", "PromisesTest"), work);
        check("one test runs alone: " + printed, printed.endsWith("all promises hold\n"));
    }

    /** The first block in the language that has the words. */
    private static String blockWith(String readme, String language, String words) {
        Matcher block = Pattern.compile("(?s)```" + language + "\n(.*?)```").matcher(readme);
        while (block.find()) {
            if (block.group(1).contains(words)) {
                return block.group(1);
            }
        }
        check("a block of " + language + " with " + words, false);
        return "";
    }

    /** Runs the commands in the folder; answers what they print, or how they ended. */
    private static String run(String commands, Path folder) throws Exception {
        Process process = new ProcessBuilder("sh", "-ec", commands)
                .directory(folder.toFile()).redirectError(ProcessBuilder.Redirect.INHERIT).start();
        String printed;
        try (InputStream out = process.getInputStream()) {
            printed = new String(out.readAllBytes(), StandardCharsets.UTF_8);
        }
        int code = process.waitFor();
        return code == 0 ? printed : "exit code " + code + ", " + printed;
    }

    // ---- what it names

    private static void theCalls(String readme) {
        String program = blockWith(readme, "java", "class Example");
        for (String call : new String[] {"push", "endTurn", "begin", "append", "firstError", "lay", "keep", "goBack",
            "undo", "coin", "bedOf", "count", "ends", "strengthFor", "bestPush"}) {
            check("the example calls " + call, program.contains("board." + call + "("));
        }
    }

    private static void theFiles(String readme) throws Exception {
        check("it tells of .ci/run", readme.contains("```sh\n.ci/run\n```"));
        check(".ci/run can be run", Files.isExecutable(Path.of(".ci/run")));
        for (String folder : new String[] {"src/main/java", "src/test/java", "src/test/support"}) {
            try (Stream<Path> files = Files.list(Path.of(folder))) {
                files.forEach(file -> check("it names " + file, readme.contains("`" + file + "`")));
            }
        }
        Matcher named = Pattern.compile("`((?:\\.\\./shared|src|\\.ci)/[A-Za-z/]+(?:\\.[a-z]+)?)`").matcher(readme);
        int found = 0;
        while (named.find()) {
            found++;
            check("there is " + named.group(1), Files.exists(Path.of(named.group(1))));
        }
        check("it names files", found > 0);
    }

    // ---- the folder to work in

    private static void copySources(Path work) throws IOException {
        try (Stream<Path> sources = Files.walk(Path.of("src"))) {
            for (Path source : (Iterable<Path>) sources::iterator) {
                Path target = work.resolve(source.toString());
                if (Files.isDirectory(source)) {
                    Files.createDirectories(target);
                } else {
                    Files.copy(source, target);
                }
            }
        }
    }

    private static void remove(Path work) throws IOException {
        try (Stream<Path> all = Files.walk(work)) {
            for (Path path : (Iterable<Path>) all.sorted(Comparator.reverseOrder())::iterator) {
                Files.delete(path);
            }
        }
    }
}
