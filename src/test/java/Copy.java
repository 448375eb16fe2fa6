import java.io.IOException;
import java.nio.file.Files;
import java.nio.file.Path;
import java.nio.file.StandardCopyOption;
import java.util.ArrayList;
import java.util.Comparator;
import java.util.List;
import java.util.Set;
import java.util.TreeSet;
import java.util.stream.Stream;

/** A place of its own, laid out as the project and ../shared are, to try rows of the shell in. */
final class Copy {
    static final String PROGRAM = "src/main/java/QuietByYard.java";
    static final String RUN = ".ci/run";

    private final Path place;
    private final Path root;
    private String said = "";

    Copy() throws IOException {
        place = Files.createTempDirectory("quiet");
        root = place.resolve("main");
        Files.createDirectories(root);
        Files.createDirectories(place.resolve("shared/tests"));
    }

    /** Takes a file of the project as it is; it may be run, if it may be there. */
    void take(String file) throws IOException {
        Path to = root.resolve(file);
        Files.createDirectories(to.getParent());
        Files.copy(Path.of(file), to, StandardCopyOption.COPY_ATTRIBUTES);
    }

    void write(String file, String text) throws IOException {
        Path to = root.resolve(file);
        Files.createDirectories(to.getParent());
        Files.writeString(to, text);
    }

    /** Runs a row as it stands, from the project's folder: its exit code. */
    int run(String row) throws IOException, InterruptedException {
        Path out = place.resolve("said");
        Process process = new ProcessBuilder("sh", "-c", row).directory(root.toFile())
            .redirectErrorStream(true).redirectOutput(out.toFile()).start();
        int code = process.waitFor();
        said = Files.readString(out);
        return code;
    }

    String said() {
        return said;
    }

    /** The names of the files in a folder of the copy; none, if there is no such folder. */
    Set<String> names(String folder) throws IOException {
        return names(root.resolve(folder), "");
    }

    static Set<String> names(Path folder, String ending) throws IOException {
        Set<String> names = new TreeSet<>();
        if (!Files.isDirectory(folder)) {
            return names;
        }
        try (Stream<Path> files = Files.list(folder)) {
            files.map(file -> file.getFileName().toString()).filter(name -> name.endsWith(ending))
                .forEach(name -> names.add(name.substring(0, name.length() - ending.length())));
        }
        return names;
    }

    void drop() throws IOException {
        List<Path> all = new ArrayList<>();
        try (Stream<Path> files = Files.walk(place)) {
            files.sorted(Comparator.reverseOrder()).forEach(all::add);
        }
        for (Path one : all) {
            Files.delete(one);
        }
    }
}
