import java.io.IOException;
import java.nio.file.Files;
import java.nio.file.Path;
import java.util.Comparator;
import java.util.stream.Stream;

/** A folder for the time of one test; closing it removes it with all that is in it. */
final class Folder implements AutoCloseable {
    final Path path;

    Folder(String name) throws IOException {
        path = Files.createTempDirectory(name);
    }

    Path write(String place, String text) throws IOException {
        Path file = path.resolve(place);
        Files.createDirectories(file.getParent());
        return Files.writeString(file, text);
    }

    @Override
    public void close() throws IOException {
        try (Stream<Path> files = Files.walk(path)) {
            for (Path file : files.sorted(Comparator.reverseOrder()).toList()) {
                Files.delete(file);
            }
        }
    }
}
