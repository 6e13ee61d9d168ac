import java.io.IOException;
import java.nio.charset.StandardCharsets;
import java.nio.file.Files;
import java.nio.file.Path;
import java.util.ArrayList;
import java.util.Comparator;
import java.util.List;
import java.util.stream.Stream;

/** What README.md says about the use of the class, tried as it stands there in a directory of its own. */
public final class ReadmeTest {
    private static final String PROGRAM = "src/main/java/StampedSlots.java";

    /** The first block of README.md that is marked so. */
    private static String block(String readme, String mark) {
        int start = readme.indexOf("```" + mark + "\n");
        int end = start < 0 ? -1 : readme.indexOf("```", start + 3);
        if (end < 0) {
            throw new IllegalStateException("README.md has no block of " + mark);
        }
        return readme.substring(start + mark.length() + 4, end);
    }

    private static String run(Path where, String lines) throws IOException, InterruptedException {
        Process process = new ProcessBuilder("sh", "-e", "-c", lines).directory(where.toFile())
                .redirectErrorStream(true).start();
        process.getOutputStream().close();
        String printed = new String(process.getInputStream().readAllBytes(), StandardCharsets.US_ASCII);
        return process.waitFor() == 0 ? printed : printed + "and ends with an error\n";
    }

    private static void clear(Path where) throws IOException {
        List<Path> all = new ArrayList<>();
        try (Stream<Path> paths = Files.walk(where)) {
            paths.sorted(Comparator.reverseOrder()).forEach(all::add);
        }
        for (Path path : all) {
            Files.delete(path);
        }
    }

    public static void main(String[] args) throws IOException, InterruptedException {
        String readme = Files.readString(Path.of("README.md"));
        Path where = Files.createTempDirectory("readme");
        String printed;
        try {
            Files.createDirectories(where.resolve(PROGRAM).getParent());
            Files.copy(Path.of(PROGRAM), where.resolve(PROGRAM));
            Files.writeString(where.resolve("Yours.java"), block(readme, "java"));
            printed = run(where, block(readme, "sh"));
        } finally {
            clear(where);
        }
        if (!printed.equals(block(readme, "text"))) {
            System.out.println("README.md's program prints:\n" + printed);
            System.exit(1);
        }
        System.out.println("ReadmeTest: README.md's program prints what is told");
    }
}
