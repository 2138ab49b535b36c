import java.io.IOException;
import java.nio.file.Files;
import java.nio.file.Path;
import java.util.ArrayList;
import java.util.Comparator;
import java.util.List;
import java.util.Set;
import java.util.TreeSet;
import java.util.regex.Matcher;
import java.util.regex.Pattern;
import java.util.stream.Stream;

/**
 * What README.md says is so: its program is compiled and prints what stands behind it; each call that it shows answers the number behind
 * it; each call of the face has a row, with the document's own arguments; each test is named.
 */
public final class ReadmeTest {
    private static final Path README = Path.of("README.md");
    private static final Path DOCUMENT = Path.of("../shared/DOC.md");
    private static final Path TESTS = Path.of("src/test/java");
    private static final Pattern BLOCK = Pattern.compile("(?s)```(\\w+)\n(.*?)```");
    /** A statement with the answer that the page says, which a colon and words may follow. */
    private static final Pattern SHOWN = Pattern.compile("^((?:x\\.|tell\\().*\\));\\s+// (-?\\d+)(?:: .*|; .*)?$");
    private static int wrong = 0;
    private static int calls = 0;

    private static void need(boolean so, String what) {
        if (!so) {
            wrong++;
            System.out.println("README.md: " + what);
        }
    }

    /** The blocks of a page, the language ahead of each. */
    private static List<String[]> blocksOf(String page) {
        List<String[]> blocks = new ArrayList<>();
        Matcher m = BLOCK.matcher(page);
        while (m.find()) {
            blocks.add(new String[] {m.group(1), m.group(2)});
        }
        return blocks;
    }

    /** Runs a command of the JDK: what it printed; a null in place of it if it failed. */
    private static String run(String... command) throws IOException, InterruptedException {
        Process p = new ProcessBuilder(command).redirectErrorStream(true).start();
        String printed = new String(p.getInputStream().readAllBytes());
        if (p.waitFor() != 0) {
            System.out.println(printed);
            return null;
        }
        return printed.replace("\r\n", "\n");
    }

    private static String runProgram(Path dir, String name, String text) throws IOException, InterruptedException {
        Path source = dir.resolve(name + ".java");
        Files.writeString(source, text);
        String compiled = run("javac", "-nowarn", "-d", dir.toString(), "src/main/java/MissCurves.java", source.toString());
        return compiled == null ? null : run("java", "-cp", dir.toString(), name);
    }

    /** A whole program stands in a block of its own; the next block of plain text is what it prints. */
    private static void programs(Path dir, List<String[]> blocks) throws IOException, InterruptedException {
        int programs = 0;
        for (int i = 0; i < blocks.size(); i++) {
            Matcher m = Pattern.compile("^public final class (\\w+) ").matcher(blocks.get(i)[1]);
            if (!blocks.get(i)[0].equals("java") || !m.find()) {
                continue;
            }
            programs++;
            int k = i + 1;
            while (k < blocks.size() && !blocks.get(k)[0].equals("text")) {
                k++;
            }
            String said = k < blocks.size() ? blocks.get(k)[1] : "";
            String printed = runProgram(dir, m.group(1), blocks.get(i)[1]);
            need(said.equals(printed), m.group(1) + " prints " + printed);
        }
        need(programs > 0, "no whole program");
    }

    /** Each other block is run by itself; one that begins with "static" is a helper of the others. */
    private static void shownCalls(Path dir, List<String[]> blocks) throws IOException, InterruptedException {
        StringBuilder helpers = new StringBuilder();
        StringBuilder runs = new StringBuilder();
        for (String[] block : blocks) {
            if (!block[0].equals("java") || block[1].startsWith("public final class")) {
                continue;
            }
            if (block[1].startsWith("static")) {
                helpers.append(block[1]);
                continue;
            }
            runs.append("{\n");
            for (String line : block[1].split("\n")) {
                runs.append(asDue(line)).append('\n');
            }
            runs.append("}\n");
        }
        String printed = runProgram(dir, "Shown", "public final class Shown {\n" + helpers
            + "static void due(String call, long got, long said) {\n"
            + "if (got != said) System.out.println(call + \" answers \" + got + \", not \" + said);\n}\n"
            + "public static void main(String[] args) {\n" + runs + "}\n}\n");
        need("".equals(printed), "\n" + printed);
    }

    private static String asDue(String line) {
        Matcher m = SHOWN.matcher(line);
        if (m.find()) {
            calls++;
            String quoted = m.group(1).replace("\\", "\\\\").replace("\"", "\\\"");
            return "due(\"" + quoted + "\", " + m.group(1) + ", " + m.group(2) + "L);";
        }
        need(line.isBlank() || line.equals("MissCurves x = new MissCurves();"), "no answer is said of " + line);
        return line;
    }

    /** The face's calls, as "name(argument, argument)". */
    private static List<String> faceOf(String document) {
        List<String> face = new ArrayList<>();
        Matcher m = Pattern.compile("(?m)^    public (?:int|long) (\\w+)\\((.*)\\);$").matcher(document);
        while (m.find()) {
            face.add(m.group(1) + "(" + m.group(2).replace("int ", "") + ")");
        }
        return face;
    }

    private static void everyCall(String page) throws IOException {
        List<String> rows = new ArrayList<>();
        String document = Files.readString(DOCUMENT);
        Matcher m = Pattern.compile("(?m)^\\| `(\\w+)(\\(.*?\\))` \\|.*\\|(.*)\\|$").matcher(page);
        while (m.find()) {
            rows.add(m.group(1) + m.group(2));
            Set<String> said = new TreeSet<>(List.of(m.group(3).trim().split(", ")));
            said.remove("");
            need(said.equals(elseOf(document, m.group(1))), m.group(1) + " is said to answer " + said + " else, not " + elseOf(document, m.group(1)));
        }
        need(rows.equals(faceOf(document)), "the rows of calls are not those of the document's face: " + rows);
    }

    /** By what a call is REFUSED, and NONE, as its promise tells: NONE begins a sentence there or stands behind a colon. */
    private static Set<String> elseOf(String document, String name) {
        Set<String> codes = new TreeSet<>();
        Matcher promise = Pattern.compile("## Promise \\d+: " + name + "\n\n`.*?`: (.*)").matcher(document);
        if (promise.find()) {
            // count() tells how many calls were REFUSED by these: it answers none of them itself.
            String text = promise.group(1).replaceAll("REFUSED by -1(, -\\d)+", "");
            Matcher m = Pattern.compile("(?:^|[.;] )(NONE)\\b|(?<![\\w.])(-\\d)").matcher(text);
            while (m.find()) {
                codes.add(m.group(1) == null ? m.group(2) : m.group(1));
            }
        }
        return codes;
    }

    private static void everyTest(String page) throws IOException {
        Set<String> named = new TreeSet<>();
        Matcher m = Pattern.compile("`(\\w+Test)`").matcher(page);
        while (m.find()) {
            named.add(m.group(1));
        }
        Set<String> there = new TreeSet<>();
        try (Stream<Path> files = Files.list(TESTS)) {
            files.map(p -> p.getFileName().toString()).filter(n -> n.endsWith("Test.java")).forEach(n -> there.add(n.replace(".java", "")));
        }
        need(named.equals(there), "names the tests " + named + ", there are " + there);
        need(page.contains("```sh\n.ci/run\n```") && Files.isExecutable(Path.of(".ci/run")), "how the tests are run");
    }

    /** Files that the page names by a path are there. */
    private static void everyPath(String page) {
        Matcher m = Pattern.compile("[`( ]((?:\\.\\./shared|src|\\.ci)/[\\w/.]*\\w)").matcher(page);
        while (m.find()) {
            need(Files.exists(Path.of(m.group(1))), m.group(1) + " is not there");
        }
    }

    private static void remove(Path dir) throws IOException {
        try (Stream<Path> files = Files.walk(dir)) {
            for (Path p : files.sorted(Comparator.reverseOrder()).toList()) {
                Files.delete(p);
            }
        }
    }

    public static void main(String[] args) throws IOException, InterruptedException {
        String page = Files.readString(README);
        List<String[]> blocks = blocksOf(page);
        Path dir = Files.createTempDirectory("readme");
        try {
            programs(dir, blocks);
            shownCalls(dir, blocks);
        } finally {
            remove(dir);
        }
        need(calls >= 50, "shows " + calls + " calls alone");
        everyCall(page);
        everyTest(page);
        everyPath(page);
        System.out.println(wrong == 0 ? "README.md shows " + calls + " calls, and what it says is so" : wrong + " faults of README.md");
        if (wrong != 0) {
            System.exit(1);
        }
    }
}
