import java.io.File;
import java.io.IOException;
import java.lang.reflect.Method;
import java.lang.reflect.Modifier;
import java.nio.file.Files;
import java.nio.file.Path;
import java.util.ArrayList;
import java.util.List;
import java.util.regex.Matcher;
import java.util.regex.Pattern;

/** The examples of README.md: its first program is built and run by its own commands, each other answer is asked for. */
public final class PlateauBenchReadme {
    private static final Path ROOM = Path.of("build", "first");
    private static final Pattern BLOCK = Pattern.compile("```(\\w+)\n(.*?)```", Pattern.DOTALL);
    private static final Pattern PROGRAM = Pattern.compile("public final class (\\w+)");
    private static final Pattern ANSWERED = Pattern.compile("(bench\\..*);\\s+// (throws \\w+|[^\\s:;]+)(: .*)?");
    private static final Pattern TEST = Pattern.compile("PlateauBench[A-Z]\\w+");

    private PlateauBenchReadme() {
    }

    public static void main(String[] args) throws IOException, InterruptedException {
        String page = Files.readString(Path.of("README.md"));
        List<String[]> blocks = blocks(page);
        Files.createDirectories(ROOM);
        firstProgram(blocks);
        examples(blocks);
        eachCallIsShown(blocks);
        namesOfTests(page);
        Check.end();
    }

    /** The language and the text of each block. */
    private static List<String[]> blocks(String page) {
        List<String[]> blocks = new ArrayList<>();
        Matcher block = BLOCK.matcher(page);
        while (block.find()) {
            blocks.add(new String[] {block.group(1), block.group(2)});
        }
        return blocks;
    }

    private static boolean isProgram(String[] block) {
        return block[0].equals("java") && PROGRAM.matcher(block[1]).find();
    }

    private static void firstProgram(List<String[]> blocks) throws IOException, InterruptedException {
        Check.says("README: a first program");
        int programs = 0;
        for (int i = 0; i + 2 < blocks.size(); i++) {
            if (isProgram(blocks.get(i))) {
                programs++;
                save(blocks.get(i)[1]);
                Check.due("the blocks behind it", blocks.get(i + 1)[0] + " " + blocks.get(i + 2)[0], "sh text");
                Check.due("what it prints", printed("sh", "-e", "-c", blocks.get(i + 1)[1]), blocks.get(i + 2)[1]);
            }
        }
        Check.due("programs", programs, 1);
    }

    private static void save(String program) throws IOException {
        Matcher name = PROGRAM.matcher(program);
        if (name.find()) {
            Files.writeString(ROOM.resolve(name.group(1) + ".java"), program);
        }
    }

    private static String printed(String... command) throws IOException, InterruptedException {
        Process process = new ProcessBuilder(command).redirectErrorStream(true).start();
        String text = new String(process.getInputStream().readAllBytes());
        return process.waitFor() == 0 ? text : text + "ended with " + process.exitValue();
    }

    /** All other examples as one program, which tells each answer that is not what stands behind its call. */
    private static void examples(List<String[]> blocks) throws IOException, InterruptedException {
        Check.says("README: the examples");
        StringBuilder body = new StringBuilder();
        int answers = 0;
        for (String[] block : blocks) {
            if (block[0].equals("java") && !isProgram(block)) {
                body.append("        {\n");
                for (String line : block[1].split("\n")) {
                    Matcher answered = ANSWERED.matcher(line);
                    boolean is = answered.matches();
                    answers += is ? 1 : 0;
                    body.append(is ? asked(answered.group(1), answered.group(2)) : line).append('\n');
                    Check.due("a call without an answer", !is && line.contains("//"), false);
                }
                body.append("        }\n");
            }
        }
        String main = "    public static void main(String[] args) {\n" + body + "        Check.end();\n    }\n";
        save("public final class Examples {\n" + main + "}\n");
        String program = ROOM.resolve("Examples.java").toString();
        String here = System.getProperty("java.class.path");
        Check.due("compiling them", printed("javac", "-cp", here, "-d", ROOM.toString(), program), "");
        String path = ROOM + File.pathSeparator + here;
        Check.due("running them", printed("java", "-cp", path, "Examples"), answers + " passed, 0 failed\n");
        Check.due("there are some", answers > 40, true);
    }

    private static String asked(String call, String answer) {
        if (answer.startsWith("throws ")) {
            return "Check.fails(\"" + call + "\", " + answer.substring(7) + ".class, () -> " + call + ");";
        }
        return "Check.due(\"" + call + "\", " + call + ", \"" + answer + "\");";
    }

    private static void eachCallIsShown(List<String[]> blocks) {
        Check.says("README: each call has an example");
        StringBuilder all = new StringBuilder();
        for (String[] block : blocks) {
            all.append(block[1]);
        }
        for (Method method : PlateauBench.class.getDeclaredMethods()) {
            if (Modifier.isPublic(method.getModifiers())) {
                Check.due(method.getName(), all.indexOf("bench." + method.getName() + "(") >= 0, true);
            }
        }
    }

    private static void namesOfTests(String page) throws IOException {
        Check.says("README: the tests");
        Matcher test = TEST.matcher(page);
        while (test.find()) {
            Check.due(test.group(), Files.exists(Path.of("src", "test", "java", test.group() + ".java")), true);
        }
        try (var files = Files.list(Path.of("src", "test", "java"))) {
            for (Path file : files.toList()) {
                String name = file.getFileName().toString().replace(".java", "");
                Check.due(name + " is told of", !name.startsWith("PlateauBench") || page.contains("`" + name + "`"), true);
            }
        }
    }
}
