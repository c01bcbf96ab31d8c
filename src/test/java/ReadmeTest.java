import java.io.IOException;
import java.net.URL;
import java.net.URLClassLoader;
import java.nio.charset.StandardCharsets;
import java.nio.file.Files;
import java.nio.file.Path;
import java.util.ArrayList;
import java.util.List;
import java.util.regex.Matcher;
import java.util.regex.Pattern;
import javax.tools.ToolProvider;

/** The examples of README.md are one program; it is compiled and run, and each answer told there must come up. */
public final class ReadmeTest {
    private static final Pattern ANSWER = Pattern.compile("\\s*\\w+ (\\w+) = .*;\\s*// (.*)");

    private static int wrong;
    private static int checks;

    /** Called by the program that is made from README.md, behind each answer. */
    public static void is(String name, Object got, String due) {
        checks++;
        if (!String.valueOf(got).equals(due)) {
            wrong++;
            System.out.println("ReadmeTest: " + name + " is " + got + ", README.md says " + due);
        }
    }

    /** The blocks of Java code of a page. */
    private static List<List<String>> blocks(List<String> page) {
        List<List<String>> blocks = new ArrayList<>();
        boolean isInside = false;
        for (String line : page) {
            if (line.startsWith("```")) {
                isInside = line.equals("```java");
                if (isInside) {
                    blocks.add(new ArrayList<>());
                }
            } else if (isInside) {
                blocks.get(blocks.size() - 1).add(line);
            }
        }
        return blocks;
    }

    /** The program: blocks that begin with a method stand in the class, the others in its main method. */
    private static String program(List<List<String>> blocks) {
        StringBuilder methods = new StringBuilder();
        StringBuilder steps = new StringBuilder();
        for (List<String> block : blocks) {
            StringBuilder text = block.get(0).startsWith("static ") ? methods : steps;
            for (String line : block) {
                text.append(line).append('\n');
                Matcher answer = ANSWER.matcher(line);
                if (answer.matches()) {
                    String name = answer.group(1);
                    text.append("ReadmeTest.is(\"").append(name).append("\", ").append(name).append(", \"")
                            .append(answer.group(2)).append("\");\n");
                }
            }
        }
        return "public final class ReadmeExample {\n" + methods
                + "public static void main(String[] arguments) {\n" + steps + "}\n}\n";
    }

    private static void run(String program) throws IOException, ReflectiveOperationException {
        Path directory = Files.createTempDirectory("readme");
        Path file = directory.resolve("ReadmeExample.java");
        Path made = directory.resolve("ReadmeExample.class");
        try {
            Files.writeString(file, program);
            String path = System.getProperty("java.class.path");
            int failed = ToolProvider.getSystemJavaCompiler()
                    .run(null, null, null, "-cp", path, "-d", directory.toString(), file.toString());
            if (failed != 0) {
                wrong++;
                System.out.println("ReadmeTest: the examples do not compile");
                return;
            }
            try (URLClassLoader loader = new URLClassLoader(new URL[] {directory.toUri().toURL()})) {
                loader.loadClass("ReadmeExample").getMethod("main", String[].class).invoke(null, (Object) new String[0]);
            }
        } finally {
            Files.deleteIfExists(made);
            Files.deleteIfExists(file);
            Files.deleteIfExists(directory);
        }
    }

    public static void main(String[] arguments) throws Exception {
        List<List<String>> blocks = blocks(Files.readAllLines(Path.of("README.md"), StandardCharsets.UTF_8));
        int due = 0;
        for (List<String> block : blocks) {
            for (String line : block) {
                due += line.contains("// ") ? 1 : 0;
            }
        }
        run(program(blocks));
        if (due == 0 || checks != due) {
            wrong++;
            System.out.println("ReadmeTest: " + checks + " answers came up of " + due + " that are told");
        }
        System.out.println(wrong == 0 ? "ReadmeTest: " + checks + " answers are as told" : "ReadmeTest: " + wrong + " faults");
        if (wrong != 0) {
            System.exit(1);
        }
    }
}
