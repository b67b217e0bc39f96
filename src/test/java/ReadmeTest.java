import java.io.IOException;
import java.lang.reflect.Method;
import java.lang.reflect.Modifier;
import java.net.URL;
import java.net.URLClassLoader;
import java.nio.file.Files;
import java.nio.file.Path;
import java.util.regex.Matcher;
import java.util.regex.Pattern;
import javax.tools.JavaCompiler;
import javax.tools.ToolProvider;

/** README.md: its examples answer as it says, and it names every call. */
public final class ReadmeTest {
    private static final Pattern BLOCK = Pattern.compile("(?s)```java\n(.*?)```");
    private static final Pattern CALL = Pattern.compile("(x\\.\\w+\\([^;]*\\));\\s*// (-?\\d+)\\b.*");
    private static int asked = 0;
    private static int wrong = 0;

    /** The examples call this, once they are compiled. */
    public static void is(String call, long got, long want) {
        asked++;
        holds(got == want, "README.md: " + call + " answered " + got + ", it says " + want);
    }

    private static void holds(boolean so, String told) {
        if (!so) {
            wrong++;
            System.out.println(told);
        }
    }

    public static void main(String[] args) throws Exception {
        String readme = Files.readString(Path.of("README.md"));
        for (Method m : OrganDrums.class.getDeclaredMethods()) {
            holds(!Modifier.isPublic(m.getModifiers()) || readme.contains("`" + m.getName() + "`"),
                    "README.md does not name " + m.getName());
        }
        run(program(readme));
        holds(asked > 20, "README.md has only " + asked + " calls with answers");
        System.out.println("README.md: " + asked + " answers, " + wrong + " faults");
        if (wrong != 0) {
            System.exit(1);
        }
    }

    /** The helpers as they are, each example as a block in which each call is asked for its answer. */
    private static String program(String readme) {
        StringBuilder helpers = new StringBuilder();
        StringBuilder examples = new StringBuilder();
        Matcher block = BLOCK.matcher(readme);
        while (block.find()) {
            if (block.group(1).startsWith("static ")) {
                helpers.append(block.group(1));
                continue;
            }
            examples.append("{\n");
            for (String line : block.group(1).split("\n")) {
                Matcher call = CALL.matcher(line);
                boolean isCall = call.matches();
                holds(isCall || !line.startsWith("x."), "README.md does not say what is answered: " + line);
                examples.append(isCall ? "ReadmeTest.is(\"" + call.group(1).replace("\"", "\\\"") + "\", " + call.group(1)
                        + ", " + call.group(2) + "L);" : line).append('\n');
            }
            examples.append("}\n");
        }
        return "public class Readme {\n" + helpers + "public static void main(String[] args) {\n" + examples + "}\n}\n";
    }

    private static void run(String program) throws IOException, ReflectiveOperationException {
        Path work = Files.createTempDirectory("readme");
        Path source = Files.writeString(work.resolve("Readme.java"), program);
        JavaCompiler javac = ToolProvider.getSystemJavaCompiler();
        // A java without a javac beside it has none.
        int answer = javac == null ? 1
                : javac.run(null, null, null, "-cp", System.getProperty("java.class.path"), source.toString());
        holds(answer == 0, "the examples of README.md do not compile");
        if (answer == 0) {
            try (URLClassLoader loader = new URLClassLoader(new URL[] {work.toUri().toURL()})) {
                loader.loadClass("Readme").getMethod("main", String[].class).invoke(null, (Object) new String[0]);
            }
        }
        for (String name : new String[] {"Readme.class", "Readme.java"}) {
            Files.deleteIfExists(work.resolve(name));
        }
        Files.delete(work);
    }
}
