import java.io.IOException;
import java.nio.charset.StandardCharsets;
import java.nio.file.Files;
import java.nio.file.Path;
import java.nio.file.StandardCopyOption;
import java.util.Comparator;
import java.util.List;
import java.util.stream.Stream;

/** A directory of its own to put files into and run commands in; it goes when it is closed. */
final class Workshop implements AutoCloseable {
    /** What a command printed, and the exit code that it ended with. */
    record Outcome(int exit, List<String> lines) { }

    private final Path root;

    Workshop() throws IOException {
        root = Files.createTempDirectory("workshop");
    }

    void write(String name, String text) throws IOException {
        Files.writeString(placeFor(name), text);
    }

    void copy(String from, String name) throws IOException {
        Files.copy(Path.of(from), placeFor(name), StandardCopyOption.COPY_ATTRIBUTES);
    }

    void delete(String name) throws IOException {
        Files.delete(root.resolve(name));
    }

    private Path placeFor(String name) throws IOException {
        Path place = root.resolve(name);
        Files.createDirectories(place.getParent());
        return place;
    }

    Outcome run(String... command) throws IOException, InterruptedException {
        // The output goes into a file, as a pipe that nobody reads would hold the command up.
        Path output = root.resolve("output");
        Process process = new ProcessBuilder(command).directory(root.toFile()).redirectErrorStream(true)
                .redirectOutput(output.toFile()).start();
        int exit = process.waitFor();
        return new Outcome(exit, Files.readAllLines(output, StandardCharsets.UTF_8));
    }

    @Override
    public void close() throws IOException {
        try (Stream<Path> all = Files.walk(root)) {
            for (Path path : all.sorted(Comparator.reverseOrder()).toList()) {
                Files.delete(path);
            }
        }
    }
}
