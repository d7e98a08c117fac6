import java.lang.reflect.Method;
import java.lang.reflect.Modifier;
import java.net.URL;
import java.net.URLClassLoader;
import java.nio.file.Files;
import java.nio.file.Path;
import java.util.function.Supplier;
import java.util.regex.Matcher;
import java.util.regex.Pattern;
import java.util.stream.Stream;
import javax.tools.ToolProvider;

/** README.md: its example compiles and answers what its comments tell, and it names every call and every test. */
public final class ReadmeTest {
    private static final Check check = new Check();
    private static final Pattern ANSWER = Pattern.compile("(int|double) (\\w+) = [^;]*; +// (-?[0-9.]*[0-9]): .*");
    private static final Path OUT = Path.of("build/readme");

    public static void main(String[] args) throws Exception {
        String readme = Files.readString(Path.of("README.md"));
        exampleAnswersAsTold(readme);
        everyCallIsNamed(readme);
        everyTestIsNamed(readme);
        for (String told : new String[] {"../shared/DOC.md", "at most 512 calls", "`RunicSticks.NONE`", ".ci/run"}) {
            check.same("README tells " + told, readme.contains(told) ? 1 : 0, 1);
        }
        check.finish("ReadmeTest");
    }

    private static void exampleAnswersAsTold(String readme) throws Exception {
        String begin = "```java\n";
        int from = readme.indexOf(begin) + begin.length();
        String example = readme.substring(from, readme.indexOf("```", from));
        check.same("the answers that are told", ANSWER.matcher(example).results().count(), 11);
        Files.createDirectories(OUT);
        Path source = OUT.resolve("Example.java");
        Files.writeString(source, sourceOf(example));
        int compiled = ToolProvider.getSystemJavaCompiler().run(null, null, null, "-cp",
            System.getProperty("java.class.path"), "-d", OUT.toString(), source.toString());
        check.same("the example compiles", compiled, 0);
        if (compiled == 0) {
            check.same("what the example answers otherwise", answersOtherwise(), "");
        }
    }

    /** The example's lines, and behind each one that tells an answer a look whether it is due. */
    private static String sourceOf(String example) {
        StringBuilder source = new StringBuilder("public final class Example implements java.util.function.Supplier"
            + "<String> {\npublic String get() {\nString otherwise = \"\";\n");
        for (String line : example.split("\n")) {
            source.append(line).append('\n');
            Matcher answer = ANSWER.matcher(line);
            if (answer.matches()) {
                String name = answer.group(2);
                source.append("if (" + name + " != " + answer.group(3) + ") { otherwise += \"" + name + ": \" + " + name
                    + " + \" \"; }\n");
            }
        }
        return source.append("return otherwise;\n}\n}\n").toString();
    }

    private static String answersOtherwise() throws Exception {
        URL[] places = {OUT.toUri().toURL()};
        try (URLClassLoader loader = new URLClassLoader(places, ReadmeTest.class.getClassLoader())) {
            Object example = loader.loadClass("Example").getDeclaredConstructor().newInstance();
            return (String) ((Supplier<?>) example).get();
        }
    }

    private static void everyCallIsNamed(String readme) {
        for (Method m : RunicSticks.class.getDeclaredMethods()) {
            if (Modifier.isPublic(m.getModifiers())) {
                check.same("README names " + m.getName(), readme.contains("`" + m.getName() + "`") ? 1 : 0, 1);
            }
        }
    }

    private static void everyTestIsNamed(String readme) throws Exception {
        try (Stream<Path> files = Files.list(Path.of("src/test/java"))) {
            for (Path file : files.toList()) {
                String name = file.getFileName().toString().replace(".java", "");
                check.same("README names " + name, readme.contains("`" + name + "`") ? 1 : 0, 1);
            }
        }
    }
}
