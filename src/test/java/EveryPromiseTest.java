import java.io.IOException;
import java.lang.reflect.Method;
import java.nio.file.Files;
import java.nio.file.Path;
import java.util.List;
import java.util.stream.Stream;

/** Every promise has a test that bears its number, and its edges have tests of their own. */
public final class EveryPromiseTest {
    private static final int PROMISES = 36;

    public static void main(String[] args) throws IOException, ClassNotFoundException {
        int[] ordinary = new int[PROMISES + 1];
        int[] edges = new int[PROMISES + 1];
        for (String name : tests()) {
            for (Method test : Checks.testsOf(Class.forName(name))) {
                int[] counts = name.endsWith("EdgesTest") ? edges : ordinary;
                counts[Checks.promiseOf(test)]++;
            }
        }
        int wrong = 0;
        for (int promise = 1; promise <= PROMISES; promise++) {
            if (ordinary[promise] == 0 || edges[promise] == 0) {
                wrong++;
                System.out.println("promise " + promise + " lacks a test");
            }
        }
        System.out.println(wrong == 0 ? "every promise has its tests" : wrong + " promises lack tests");
        if (wrong != 0) {
            System.exit(1);
        }
    }

    /** The tests' names, by their sources: .ci/run begins in the project's folder. */
    private static List<String> tests() throws IOException {
        try (Stream<Path> files = Files.list(Path.of("src/test/java"))) {
            return files.map(file -> file.getFileName().toString()).filter(name -> name.endsWith("Test.java"))
                .map(name -> name.substring(0, name.length() - ".java".length())).sorted().toList();
        }
    }
}
