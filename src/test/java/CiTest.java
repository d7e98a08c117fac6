import java.io.IOException;
import java.nio.file.Files;
import java.nio.file.Path;
import java.util.ArrayList;
import java.util.List;

/** .ci/run, copied into small projects: it passes where all is right, and fails for each fault that it has to find. */
public final class CiTest {
    private static final Check check = new Check();
    private static final Path PLACES = Path.of("build/ci").toAbsolutePath();

    private static final String CLASS = "main/src/main/java/RunicSticks.java";
    private static final String OWN = "main/src/test/java/OwnTest.java";
    private static final String GIVEN = "shared/tests/Given.java";
    private static final String DEEP = "shared/tests/some/place/Deep.java";

    private record Run(String name, boolean passes, Process process) { }

    public static void main(String[] args) throws Exception {
        check.same(".ci/run is executable", Files.isExecutable(Path.of(".ci/run")) ? 1 : 0, 1);
        List<Run> runs = new ArrayList<>();
        runs.add(started("all is right", true, "", ""));
        runs.add(started("the class does not compile", false, CLASS, "public final class RunicSticks {"));
        runs.add(started("a test of the project fails", false, OWN, testEndingWith("OwnTest", 1)));
        runs.add(started("a test of the project does not compile", false, OWN, "public final class OwnTest {"));
        runs.add(started("a given test fails", false, GIVEN, testEndingWith("Given", 1)));
        runs.add(started("a given test ends with another exit code", false, GIVEN, testEndingWith("Given", 3)));
        runs.add(started("a given test does not compile", false, GIVEN, "public final class Given {"));
        runs.add(started("a given test in a directory fails", false, DEEP, testEndingWith("Deep", 1)));
        for (Run run : runs) {
            check.same(run.name + ": .ci/run passes", run.process.waitFor() == 0 ? 1 : 0, run.passes ? 1 : 0);
        }
        check.finish("CiTest");
    }

    private static String testEndingWith(String name, int code) {
        return "public final class " + name + " {\n    public static void main(String[] args) {\n"
            + "        new RunicSticks();\n        System.exit(" + code + ");\n    }\n}\n";
    }

    /** A project in which all is right but this one file. */
    private static Run started(String name, boolean passes, String file, String text) throws IOException {
        Path place = PLACES.resolve(name.replace(' ', '-'));
        write(place.resolve("main/.ci/run"), Files.readString(Path.of(".ci/run")));
        write(place.resolve(CLASS), "public final class RunicSticks { }\n");
        write(place.resolve(OWN), testEndingWith("OwnTest", 0));
        write(place.resolve(GIVEN), testEndingWith("Given", 0));
        write(place.resolve(DEEP), testEndingWith("Deep", 0));
        if (!file.isEmpty()) {
            write(place.resolve(file), text);
        }
        Process process = new ProcessBuilder("sh", place.resolve("main/.ci/run").toString())
            .redirectErrorStream(true).redirectOutput(place.resolve("told").toFile()).start();
        return new Run(name, passes, process);
    }

    private static void write(Path file, String text) throws IOException {
        Files.createDirectories(file.getParent());
        Files.writeString(file, text);
    }
}
