import java.io.IOException;
import java.nio.file.DirectoryStream;
import java.nio.file.Files;
import java.nio.file.Path;

/** No promise is without sentences of its own among the tests of edges; it is run from the project's folder. */
public final class PromisesTest {
    public static void main(String[] args) throws IOException {
        StringBuilder tests = new StringBuilder();
        try (DirectoryStream<Path> files = Files.newDirectoryStream(Path.of("src/test/java"), "*EdgesTest.java")) {
            for (Path file : files) {
                tests.append(Files.readString(file));
            }
        }
        for (int promise = 1; promise <= 42; promise++) {
            Due.is("sentences of promise " + promise, tests.indexOf("\"P" + promise + " ") >= 0, true);
        }
        Due.end();
    }
}
