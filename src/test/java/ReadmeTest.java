import java.io.IOException;
import java.nio.charset.StandardCharsets;
import java.nio.file.Files;
import java.nio.file.Path;
import java.util.ArrayList;
import java.util.List;
import java.util.stream.Stream;

/** What README.md shows can be done as it stands there, with nothing but src; it is run from the project's folder. */
public final class ReadmeTest {
    private static final String HAND_OVER = "bash .ci/run";

    public static void main(String[] args) throws IOException, InterruptedException {
        String readme = Files.readString(Path.of("README.md"));
        Path folder = Files.createTempDirectory("readme");
        try {
            copySources(folder);
            List<String> programs = blocks(readme, "java");
            List<String> printed = blocks(readme, "text");
            Due.is("programs of README.md", programs.size(), 1);
            Due.is("what they print", printed.size(), 1);
            Files.writeString(folder.resolve("Try.java"), programs.get(0));
            runAll(folder, blocks(readme, "sh"), printed.get(0));
        } finally {
            remove(folder);
        }
        Due.end();
    }

    /** Runs the commands in their order; the one that tries the program must print what README.md says. */
    private static void runAll(Path folder, List<String> blocks, String printed) throws IOException, InterruptedException {
        int own = 0;
        int tried = 0;
        for (String block : blocks) {
            // The whole run would come here again.
            if (block.startsWith(HAND_OVER)) {
                own += block.equals(HAND_OVER + "\n") || block.equals(HAND_OVER + " own\n") ? 1 : 0;
                continue;
            }
            String said = run(folder, block);
            if (block.contains("java -cp out Try")) {
                tried++;
                same(said, printed);
            }
        }
        Due.is("README.md names .ci/run, with and without ../shared/tests", own, 2);
        Due.is("README.md runs its program", tried, 1);
        Due.is(".ci/run knows 'own'", Files.readString(Path.of(".ci/run")).contains("own"), true);
    }

    private static void same(String said, String printed) {
        String[] are = said.split("\n");
        String[] due = printed.split("\n");
        Due.is("lines that the program prints", are.length, due.length);
        for (int i = 0; i < due.length; i++) {
            Due.is("the program prints: " + due[i], i < are.length && are[i].equals(due[i]), true);
        }
    }

    /** What the commands print, without what compilers and machines tell aside. */
    private static String run(Path folder, String commands) throws IOException, InterruptedException {
        Path said = folder.resolve("said");
        Path aside = folder.resolve("aside");
        Process process = new ProcessBuilder("sh", "-e", "-c", commands).directory(folder.toFile())
            .redirectOutput(said.toFile()).redirectError(aside.toFile()).start();
        int code = process.waitFor();
        String all = Files.readString(said, StandardCharsets.ISO_8859_1);
        Due.is("exit code of: " + commands + all + Files.readString(aside, StandardCharsets.ISO_8859_1), code, 0);
        return all;
    }

    /** What stands between the fences of a kind. */
    private static List<String> blocks(String readme, String kind) {
        List<String> found = new ArrayList<>();
        String fence = "```" + kind + "\n";
        for (int from = readme.indexOf(fence); from >= 0; from = readme.indexOf(fence, from + 1)) {
            int start = from + fence.length();
            int end = readme.indexOf("```", start);
            found.add(readme.substring(start, end < 0 ? readme.length() : end));
        }
        return found;
    }

    private static void copySources(Path folder) throws IOException {
        try (Stream<Path> all = Files.walk(Path.of("src"))) {
            for (Path path : (Iterable<Path>) all::iterator) {
                Files.copy(path, folder.resolve(path.toString()));
            }
        }
    }

    private static void remove(Path folder) throws IOException {
        try (Stream<Path> all = Files.walk(folder)) {
            for (Path path : (Iterable<Path>) all.sorted((a, b) -> b.compareTo(a))::iterator) {
                Files.delete(path);
            }
        }
    }
}
