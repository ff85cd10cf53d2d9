import java.io.IOException;
import java.nio.charset.StandardCharsets;
import java.nio.file.Files;
import java.nio.file.Path;
import java.util.Comparator;
import java.util.List;
import java.util.stream.Collectors;
import java.util.stream.Stream;

/** A folder of its own, in which commands are run as a reader of this project would run them. */
final class Sandbox {
    private final Path top;

    Sandbox() {
        try {
            top = Files.createTempDirectory("dirtytiles");
        } catch (IOException e) {
            throw new IllegalStateException("no folder for the test: " + e);
        }
    }

    /** What a run of commands ended with. */
    static final class Ending {
        final int code;
        final String printed;
        final String errors;

        Ending(int code, String printed, String errors) {
            this.code = code;
            this.printed = printed;
            this.errors = errors;
        }
    }

    void write(String name, String text) {
        try {
            Path file = top.resolve(name);
            Files.createDirectories(file.getParent());
            Files.writeString(file, text);
        } catch (IOException e) {
            throw new IllegalStateException("not written: " + e);
        }
    }

    /** Copies a file, or a folder with all that is in it. */
    void copy(Path from, String name) {
        for (Path each : filesBelow(from)) {
            try {
                Path file = top.resolve(name).resolve(from.relativize(each).toString());
                Files.createDirectories(file.getParent());
                Files.copy(each, file);
            } catch (IOException e) {
                throw new IllegalStateException("not copied: " + e);
            }
        }
    }

    Ending run(String folder, String commands) {
        try {
            // Apart from what is printed, as the machine may have notes of its own there.
            Path errors = top.resolve("errors");
            Process process = new ProcessBuilder("sh", "-ec", commands)
                    .directory(top.resolve(folder).toFile())
                    .redirectError(errors.toFile())
                    .start();
            process.getOutputStream().close();
            String printed = new String(process.getInputStream().readAllBytes(),
                    StandardCharsets.UTF_8);
            return new Ending(process.waitFor(), printed, Files.readString(errors));
        } catch (IOException | InterruptedException e) {
            throw new IllegalStateException("not run: " + e);
        }
    }

    void remove() {
        try (Stream<Path> all = Files.walk(top)) {
            // What is deepest comes first, as only an empty folder can be taken away.
            for (Path each : all.sorted(Comparator.reverseOrder()).collect(Collectors.toList())) {
                Files.delete(each);
            }
        } catch (IOException e) {
            throw new IllegalStateException("not removed: " + e);
        }
    }

    static List<Path> filesBelow(Path top) {
        try (Stream<Path> all = Files.walk(top)) {
            return all.filter(Files::isRegularFile).sorted().collect(Collectors.toList());
        } catch (IOException e) {
            throw new IllegalStateException("no " + top + " here: " + e);
        }
    }
}
