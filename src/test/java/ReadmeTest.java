import java.io.IOException;
import java.net.URL;
import java.net.URLClassLoader;
import java.nio.file.Files;
import java.nio.file.Path;
import java.util.regex.Matcher;
import java.util.regex.Pattern;
import javax.tools.ToolProvider;

/**
 * README.md tells the truth: its Java is compiled and run, and each call whose comment begins with
 * a number, or with 'throws', must answer so.
 */
public final class ReadmeTest {
    private static final Pattern BLOCK = Pattern.compile("```java\n(.*?)```", Pattern.DOTALL);
    private static final Pattern CALL = Pattern.compile("(x\\..*);\\s*// (-?\\d+|throws \\w+).*");

    public static void main(String[] args) throws IOException, ReflectiveOperationException {
        StringBuilder members = new StringBuilder();
        StringBuilder steps = new StringBuilder();
        int calls = 0;
        Matcher blocks = BLOCK.matcher(Files.readString(Path.of("README.md")));
        while (blocks.find()) {
            boolean isMember = blocks.group(1).startsWith("static ");
            for (String line : blocks.group(1).split("\n")) {
                Matcher call = CALL.matcher(line);
                calls += call.matches() ? 1 : 0;
                (isMember ? members : steps).append(call.matches() ? checked(call.group(1), call.group(2)) : line).append('\n');
            }
        }
        int wrong = calls < 10 ? 1 : run(members.toString(), steps.toString());
        System.out.println(wrong == 0 ? "the readme's " + calls + " calls answer as it says" : wrong + " answers are not as the readme says");
        if (wrong != 0) {
            System.exit(1);
        }
    }

    private static String checked(String call, String due) {
        String name = "\"" + call.replace("\"", "\\\"") + "\"";
        return "try { long got = " + call + "; wrong += due(" + name + ", \"\" + got, \"" + due + "\"); }"
                + " catch (RuntimeException e) { wrong += due(" + name + ", \"throws \" + e.getClass().getSimpleName(), \"" + due + "\"); }";
    }

    private static int run(String members, String steps) throws IOException, ReflectiveOperationException {
        Path place = Files.createTempDirectory("readme");
        Path source = place.resolve("Readme.java");
        try {
            Files.writeString(source, "import java.util.NoSuchElementException;\npublic class Readme {\n" + members
                    + "static int due(String call, String got, String want) { if (got.equals(want)) { return 0; }"
                    + " System.out.println(call + \" answered \" + got + \", the readme says \" + want); return 1; }\n"
                    + "public static int run() { int wrong = 0;\n" + steps + "return wrong; }\n}\n");
            int failed = ToolProvider.getSystemJavaCompiler().run(null, null, null,
                    "-cp", System.getProperty("java.class.path"), "-d", place.toString(), source.toString());
            if (failed != 0) {
                return 1;
            }
            try (URLClassLoader loader = new URLClassLoader(new URL[] {place.toUri().toURL()}, ReadmeTest.class.getClassLoader())) {
                return (int) loader.loadClass("Readme").getMethod("run").invoke(null);
            }
        } finally {
            for (String file : new String[] {"Readme.class", "Readme.java", ""}) {
                Files.deleteIfExists(place.resolve(file));
            }
        }
    }
}
