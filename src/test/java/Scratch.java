import java.io.IOException;
import java.nio.file.Files;
import java.nio.file.Path;
import java.util.Comparator;
import java.util.List;
import java.util.stream.Stream;

/** A directory for what a test writes; it is gone when the test has ended. */
final class Scratch implements AutoCloseable {
    final Path root;

    Scratch() throws IOException {
        root = Files.createTempDirectory("easytohard");
    }

    Path write(String place, String text) throws IOException {
        Path file = root.resolve(place);
        Files.createDirectories(file.getParent());
        return Files.writeString(file, text);
    }

    void remove(String place) throws IOException {
        removeAll(root.resolve(place));
    }

    @Override
    public void close() throws IOException {
        removeAll(root);
    }

    private static void removeAll(Path directory) throws IOException {
        List<Path> deepestFirst;
        try (Stream<Path> files = Files.walk(directory)) {
            deepestFirst = files.sorted(Comparator.reverseOrder()).toList();
        }
        for (Path file : deepestFirst) {
            Files.delete(file);
        }
    }
}
