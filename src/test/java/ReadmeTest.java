import java.io.IOException;
import java.lang.reflect.Method;
import java.lang.reflect.Modifier;
import java.nio.file.Files;
import java.nio.file.Path;
import java.util.ArrayList;
import java.util.Comparator;
import java.util.List;
import java.util.regex.Matcher;
import java.util.regex.Pattern;
import java.util.stream.Stream;

/** What README.md says holds as it is written there: its sample, its commands, its tables. */
public final class ReadmeTest extends Checks {
    /** Not run here: it runs this test. */
    private static final String ALL_TESTS = ".ci/run\n";

    public static void main(String[] args) throws Exception {
        String readme = Files.readString(Path.of("README.md"));
        commands(readme);
        texts(readme);
        refusals(readme);
        calls(readme);
        tests(readme);
        end();
    }

    /** In a copy of the project, so that this one stays as it is. */
    private static void commands(String readme) throws Exception {
        about("the commands");
        List<String> samples = blocks(readme, "java");
        is("samples", samples.size(), 1);
        Path copy = Files.createTempDirectory("readme");
        try {
            copyTree(Path.of("src"), copy.resolve("src"));
            Files.writeString(copy.resolve("Sample.java"), samples.get(0));
            int run = 0;
            for (String block : blocks(readme, "sh")) {
                if (block.equals(ALL_TESTS)) {
                    is(".ci/run can be run", Files.isExecutable(Path.of(".ci/run")) ? 1 : 0, 1);
                    continue;
                }
                String printed = printedBy(block, copy);
                if (block.contains(" Sample\n")) {
                    sample(samples.get(0), printed);
                    run++;
                }
            }
            is("runs of the sample", run, 1);
        } finally {
            deleteTree(copy);
        }
    }

    private static void sample(String sample, String printed) {
        about("the sample");
        List<String> told = new ArrayList<>();
        for (String line : sample.split("\n")) {
            Matcher show = Pattern.compile("^ +show\\((.*)\\); +// (-?\\d+)\\b").matcher(line);
            if (show.find()) told.add(show.group(1) + " answers " + show.group(2));
            else is(line + ": an answer is told", line.contains(" show(suit") ? 1 : 0, 0);
        }
        String[] lines = printed.split("\n");
        is("answers", lines.length, told.size());
        for (int i = 0; i < told.size() && i < lines.length; i++) {
            String call = told.get(i).replaceAll(" answers .*", "");
            is(call, call + " answers " + lines[i], told.get(i));
        }
    }

    private static void texts(String readme) {
        about("the texts");
        Matcher told = Pattern.compile("`((?:pay|say) [^`]*)`").matcher(readme);
        is("a claim is told", told.find() ? 1 : 0, 1);
        isClaim(told.group(1), 100, 7);
        is("a paper is told", told.find() ? 1 : 0, 1);
        PleaPapers x = new PleaPapers();
        paper(x, 0, "say 5;");
        paper(x, 0, "deny 5;say 2,3,4;");
        is(told.group(1), paper(x, 0, told.group(1)), 2);
    }

    private static void refusals(String readme) throws Exception {
        about("the answers below 0");
        Matcher row = Pattern.compile("`([A-Z]+)` \\((-\\d+)\\)").matcher(readme);
        int rows = 0;
        for (; row.find(); rows++) {
            is(row.group(1), PleaPapers.class.getField(row.group(1)).getInt(null), Integer.parseInt(row.group(2)));
        }
        is("rows", rows, 5);
    }

    private static void calls(String readme) {
        about("the calls");
        List<String> told = new ArrayList<>();
        Matcher row = Pattern.compile("(?m)^\\| `[a-z]\\w*\\(.*").matcher(readme);
        while (row.find()) {
            Matcher call = Pattern.compile("`([a-z]\\w*)\\((.*?)\\)`").matcher(row.group().split(" \\| ")[0]);
            while (call.find()) {
                int parameters = call.group(2).isEmpty() ? 0 : call.group(2).split(",").length;
                told.add(call.group(1) + " of " + parameters);
            }
        }
        List<String> face = new ArrayList<>();
        for (Method method : PleaPapers.class.getDeclaredMethods()) {
            if (!Modifier.isPublic(method.getModifiers())) continue;
            face.add(method.getName() + " of " + method.getParameterCount());
        }
        told.sort(Comparator.naturalOrder());
        face.sort(Comparator.naturalOrder());
        is("all of them", String.join(", ", told), String.join(", ", face));
    }

    private static void tests(String readme) throws IOException {
        about("the tests");
        try (Stream<Path> files = Files.list(Path.of("src/test/java"))) {
            for (Path file : files.toList()) {
                String name = file.getFileName().toString().replace(".java", "");
                is(name + " is told", readme.contains("`" + name + "`") ? 1 : 0, 1);
            }
        }
    }

    // ---- files and commands

    private static List<String> blocks(String readme, String language) {
        List<String> blocks = new ArrayList<>();
        Matcher block = Pattern.compile("(?ms)^```" + language + "\n(.*?)^```$").matcher(readme);
        while (block.find()) blocks.add(block.group(1));
        return blocks;
    }

    private static String printedBy(String commands, Path where) throws Exception {
        ProcessBuilder builder = new ProcessBuilder("sh", "-ec", commands).directory(where.toFile());
        Process shell = builder.redirectErrorStream(true).start();
        String printed = new String(shell.getInputStream().readAllBytes());
        int code = shell.waitFor();
        is("exit code of " + commands + printed, code, 0);
        return printed;
    }

    private static void copyTree(Path from, Path to) throws IOException {
        try (Stream<Path> files = Files.walk(from)) {
            for (Path file : files.toList()) Files.copy(file, to.resolve(from.relativize(file)));
        }
    }

    private static void deleteTree(Path top) throws IOException {
        try (Stream<Path> files = Files.walk(top)) {
            for (Path file : files.sorted(Comparator.reverseOrder()).toList()) Files.delete(file);
        }
    }
}
