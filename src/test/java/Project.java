import java.io.IOException;
import java.io.UncheckedIOException;
import java.nio.charset.StandardCharsets;
import java.nio.file.Files;
import java.nio.file.Path;
import java.util.Comparator;
import java.util.List;
import java.util.stream.Stream;

/**
 * A project of its own in a new directory, with a shared one beside it, so that commands can be
 * tried for real and nothing is left behind in this one.
 */
final class Project implements AutoCloseable {
    /** What a command printed, and how it ended. */
    record Ended(int code, String printed) {
        String lastLine() {
            String[] lines = printed.split("\n");
            return lines[lines.length - 1];
        }
    }

    static final String CLASS = "src/main/java/ChairViews.java";

    private final Path above;
    final Path root;
    final Path shared;

    Project() throws IOException {
        above = Files.createTempDirectory("chairs");
        root = Files.createDirectories(above.resolve("project"));
        shared = Files.createDirectories(above.resolve("shared/tests"));
    }

    /** Files of this project, or directories with all that is in them, where they are here. */
    Project with(String... names) throws IOException {
        for (String name : names) {
            copy(Path.of(name), root.resolve(name));
        }
        return this;
    }

    Project withShared() throws IOException {
        copy(Path.of("../shared"), above.resolve("shared"));
        return this;
    }

    private static void copy(Path from, Path to) throws IOException {
        try (Stream<Path> all = Files.walk(from)) {
            for (Path one : (Iterable<Path>) all::iterator) {
                Path its = to.resolve(from.relativize(one).toString());
                if (Files.isDirectory(one)) {
                    Files.createDirectories(its);
                } else {
                    Files.createDirectories(its.getParent());
                    Files.write(its, Files.readAllBytes(one));
                    its.toFile().setExecutable(Files.isExecutable(one));
                }
            }
        }
    }

    Project write(String name, String text) throws IOException {
        return write(root.resolve(name), text);
    }

    Project share(String name, String text) throws IOException {
        return write(shared.resolve(name), text);
    }

    private Project write(Path file, String text) throws IOException {
        Files.createDirectories(file.getParent());
        Files.writeString(file, text, StandardCharsets.UTF_8);
        return this;
    }

    /** Commands as they would be typed in that directory, up to the first that fails. */
    Ended run(Path directory, String commands) throws IOException, InterruptedException {
        Path printed = Files.createTempFile(above, "printed", "");
        Process shell = new ProcessBuilder(List.of("bash", "-ec", commands)).directory(directory.toFile())
            .redirectErrorStream(true).redirectOutput(printed.toFile()).start();
        shell.getOutputStream().close();
        int code = shell.waitFor();
        return new Ended(code, Files.readString(printed, StandardCharsets.UTF_8));
    }

    Ended run(String commands) throws IOException, InterruptedException {
        return run(root, commands);
    }

    @Override
    public void close() {
        try (Stream<Path> all = Files.walk(above)) {
            all.sorted(Comparator.reverseOrder()).forEach(one -> one.toFile().delete());
        } catch (IOException failed) {
            throw new UncheckedIOException(failed);
        }
    }
}
