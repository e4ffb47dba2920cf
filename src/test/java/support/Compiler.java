import java.io.IOException;
import java.io.StringWriter;
import java.io.UncheckedIOException;
import java.net.MalformedURLException;
import java.net.URL;
import java.net.URLClassLoader;
import java.nio.file.Files;
import java.nio.file.Path;
import java.util.ArrayList;
import java.util.Comparator;
import java.util.List;
import java.util.stream.Stream;
import javax.tools.JavaCompiler;
import javax.tools.StandardJavaFileManager;
import javax.tools.ToolProvider;

/** Compiles Java within this machine, each time into a folder of its own that is gone at the end. */
final class Compiler implements AutoCloseable {
    private final JavaCompiler javac = ToolProvider.getSystemJavaCompiler();
    private final StandardJavaFileManager files = javac.getStandardFileManager(null, null, null);
    private final Path room = Files.createTempDirectory("compiled");
    private int folders;

    Compiler() throws IOException { }

    /** A source without a package, in a file that bears its class's name. */
    Path source(String name, String text) throws IOException {
        Path folder = Files.createDirectory(room.resolve("source" + folders++));
        return Files.writeString(folder.resolve(name + ".java"), text);
    }

    /** The folder of the classes. */
    Path compiled(List<Path> sources, Path... known) throws IOException {
        Path folder = Files.createDirectory(room.resolve("classes" + folders++));
        List<String> options = new ArrayList<>(List.of("-nowarn", "-proc:none", "-d", folder.toString(), "-cp"));
        options.add(String.join(java.io.File.pathSeparator, Stream.of(known).map(Path::toString).toList()));
        StringWriter said = new StringWriter();
        if (!javac.getTask(said, files, null, options, null, files.getJavaFileObjectsFromPaths(sources)).call()) {
            throw new IllegalStateException("does not compile: " + said);
        }
        return folder;
    }

    /** Classes of their own, so that nothing static is shared with those of another call. */
    static URLClassLoader loader(Path... folders) {
        return new URLClassLoader(Stream.of(folders).map(Compiler::url).toArray(URL[]::new),
            ClassLoader.getPlatformClassLoader());
    }

    private static URL url(Path folder) {
        try {
            return folder.toUri().toURL();
        } catch (MalformedURLException e) {
            throw new UncheckedIOException(e);
        }
    }

    @Override
    public void close() throws IOException {
        files.close();
        try (Stream<Path> all = Files.walk(room)) {
            for (Path path : all.sorted(Comparator.reverseOrder()).toList()) {
                Files.delete(path);
            }
        }
    }
}
